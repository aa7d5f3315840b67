/-! The checks of the reference, as functions of the state -/
def q_word (row : Nat → Int32) (RR : Nat) (ft : Nat → Int32) (P : PS) (t : Nat) : Option Nat := m_word row ft RR (P.2.2.1 8 t) (P.2.2.1 9 t) RR 0 0
def q_chl (ft : Nat → Int32) (P : PS) (t : Nat) : Nat → Nat → Option Nat → Option Nat
  | 0, _, g => g
  | k + 1, i, g => if g = none then q_chl ft P t k (i + 1) (if m_like ft (P.2.2.1 8) (P.2.2.1 9) (P.2.2.1 16 i) t = true then some (2 + i) else none) else g
theorem q_chl_u (ft : Nat → Int32) (P : PS) (t n i : Nat) (g : Option Nat) : q_chl ft P t (n - i) i g = if i < n then (if g = none then q_chl ft P t (n - (i + 1)) (i + 1) (if m_like ft (P.2.2.1 8) (P.2.2.1 9) (P.2.2.1 16 i) t = true then some (2 + i) else none) else g) else g := by
  by_cases h : i < n
  · rw [if_pos h, show n - i = (n - (i + 1)) + 1 by omega]; rfl
  · rw [if_neg h, show n - i = 0 by omega]; rfl
def q_chip (ft gw : Nat → Int32) (P : PS) (t : Nat) : Option Nat := q_chl ft P t (P.1 15) 0 (q_word gw 9 ft P t)
def q_own (ft : Nat → Int32) (P : PS) (c t : Nat) : Option Nat := m_find ft (P.2.2.1 8) (P.2.2.1 9) (P.2.2.1 20) t (P.2.2.1 17 (c + 1) - P.2.2.1 17 c) (P.2.2.1 17 c)
def q_inn (ft : Nat → Int32) (P : PS) (c t : Nat) : Option Nat := m_find ft (P.2.2.1 8) (P.2.2.1 9) (P.2.2.1 38) t (P.2.2.1 36 (c + 1) - P.2.2.1 36 c) (P.2.2.1 36 c)
def q_pin (ft gp : Nat → Int32) (P : PS) (i t : Nat) : Option Nat :=
  if 1 < i then q_own ft P (i - 2) t else if i = 0 then (if q_word gp 11 ft P t = some 3 then none else q_word gp 11 ft P t) else if q_word gp 11 ft P t = some 3 then some 0 else if q_word gp 11 ft P t = some 2 then some 1 else none
def q_any (g : Nat → Bool) : Nat → Nat → Bool → Bool
  | 0, _, x => x
  | k + 1, i, x => q_any g k (i + 1) (x || g i)
theorem q_any_u (g : Nat → Bool) (n i : Nat) (x : Bool) : q_any g (n - i) i x = if i < n then q_any g (n - (i + 1)) (i + 1) (x || g i) else x := by
  by_cases h : i < n
  · rw [if_pos h, show n - i = (n - (i + 1)) + 1 by omega]; rfl
  · rw [if_neg h, show n - i = 0 by omega]; rfl
/-- checkPins -/
def cp_a (ft : Nat → Int32) (c p : Nat) (P : PS) : PS := if q_any (fun k => m_like ft (P.2.2.1 8) (P.2.2.1 9) (P.2.2.1 20 k) (P.2.2.1 20 p)) (p - P.2.2.1 17 c) (P.2.2.1 17 c) false = true then sp_note 3 (P.2.2.1 20 p) P else P
def cp_b (nv : Nat → Nat) (p : Nat) (P : PS) : PS := match P.2.2.2.1 22 p with
  | none => P
  | some z => if nv z < 1 ∨ 16 < nv z then sp_note 5 z P else P
def cp_pins (ft : Nat → Int32) (nv : Nat → Nat) (c : Nat) : Nat → Nat → PS → PS
  | 0, _, P => P
  | k + 1, p, P => cp_pins ft nv c k (p + 1) (cp_b nv p (cp_a ft c p P))
theorem cp_pins_u (ft : Nat → Int32) (nv : Nat → Nat) (c n p : Nat) (P : PS) : cp_pins ft nv c (n - p) p P = if p < n then cp_pins ft nv c (n - (p + 1)) (p + 1) (cp_b nv p (cp_a ft c p P)) else P := by
  by_cases h : p < n
  · rw [if_pos h, show n - p = (n - (p + 1)) + 1 by omega]; rfl
  · rw [if_neg h, show n - p = 0 by omega]; rfl
def cp_t (ft gw : Nat → Int32) (c : Nat) (P : PS) : PS := if q_any (fun k => m_like ft (P.2.2.1 8) (P.2.2.1 9) (P.2.2.1 16 k) (P.2.2.1 16 c)) c 0 (!decide (q_word gw 9 ft P (P.2.2.1 16 c) = none)) = true then sp_note 3 (P.2.2.1 16 c) P else P
def cp_ch (ft gw : Nat → Int32) (nv : Nat → Nat) (c : Nat) (P : PS) : PS := cp_pins ft nv c (P.2.2.1 17 (c + 1) - P.2.2.1 17 c) (P.2.2.1 17 c) (cp_t ft gw c P)
def cp_all (ft gw : Nat → Int32) (nv : Nat → Nat) : Nat → Nat → PS → PS
  | 0, _, P => P
  | k + 1, c, P => cp_all ft gw nv k (c + 1) (cp_ch ft gw nv c P)
theorem cp_all_u (ft gw : Nat → Int32) (nv : Nat → Nat) (n c : Nat) (P : PS) : cp_all ft gw nv (n - c) c P = if c < n then cp_all ft gw nv (n - (c + 1)) (c + 1) (cp_ch ft gw nv c P) else P := by
  by_cases h : c < n
  · rw [if_pos h, show n - c = (n - (c + 1)) + 1 by omega]; rfl
  · rw [if_neg h, show n - c = 0 by omega]; rfl
/-- findInner -/
def fi_0 : Nat → Nat → PS → PS
  | 0, _, P => P
  | k + 1, i, P => fi_0 k (i + 1) (abs_ (aos P 39 i (some 0)) 40 i false)
theorem fi_0_u (n i : Nat) (P : PS) : fi_0 (n - i) i P = if i < n then fi_0 (n - (i + 1)) (i + 1) (abs_ (aos P 39 i (some 0)) 40 i false) else P := by
  by_cases h : i < n
  · rw [if_pos h, show n - i = (n - (i + 1)) + 1 by omega]; rfl
  · rw [if_neg h, show n - i = 0 by omega]; rfl
/-- how many bits the left side of link l has at pin x of a part that is i; none: its range doesn't fit -/
def q_lb (P : PS) (i x l : Nat) : Option Nat := if m_fits (P.2.2.2.1 29 l) (P.2.2.1 30 l) (P.2.2.1 31 l) (m_wd (P.2.2.1 21) i x) = true then some (m_bits (P.2.2.2.1 29 l) (P.2.2.1 30 l) (P.2.2.1 31 l) (m_wd (P.2.2.1 21) i x)) else none
/-- the inner name on the right of link l -/
def q_ri (ft : Nat → Int32) (P : PS) (c l : Nat) : Option Nat := if P.2.2.1 7 (P.2.2.1 32 l) = 1 then q_inn ft P c (P.2.2.1 32 l) else none
def fi_link (ft gp : Nat → Int32) (c i l : Nat) (P : PS) : PS := match q_pin ft gp P i (P.2.2.1 28 l) with
  | none => P
  | some x => match q_ri ft P c l with
    | none => P
    | some y => if m_isOut (P.2.2.2.2 19) i x = true ∧ P.2.2.2.1 39 y = some 0 then aos P 39 y (q_lb P i x l) else P
def fi_links (ft gp : Nat → Int32) (c i : Nat) : Nat → Nat → PS → PS
  | 0, _, P => P
  | k + 1, l, P => fi_links ft gp c i k (l + 1) (fi_link ft gp c i l P)
theorem fi_links_u (ft gp : Nat → Int32) (c i n l : Nat) (P : PS) : fi_links ft gp c i (n - l) l P = if l < n then fi_links ft gp c i (n - (l + 1)) (l + 1) (fi_link ft gp c i l P) else P := by
  by_cases h : l < n
  · rw [if_pos h, show n - l = (n - (l + 1)) + 1 by omega]; rfl
  · rw [if_neg h, show n - l = 0 by omega]; rfl
def fi_is (ft gw : Nat → Int32) (p : Nat) (P : PS) : PS := aos P 44 p (q_chip ft gw P (P.2.2.1 25 p))
def fi_part (ft gw gp : Nat → Int32) (c p : Nat) (P : PS) : PS := match q_chip ft gw P (P.2.2.1 25 p) with
  | none => fi_is ft gw p P
  | some i => fi_links ft gp c i (P.2.2.1 26 (p + 1) - P.2.2.1 26 p) (P.2.2.1 26 p) (fi_is ft gw p P)
def fi_parts (ft gw gp : Nat → Int32) (c : Nat) : Nat → Nat → PS → PS
  | 0, _, P => P
  | k + 1, p, P => fi_parts ft gw gp c k (p + 1) (fi_part ft gw gp c p P)
theorem fi_parts_u (ft gw gp : Nat → Int32) (c n p : Nat) (P : PS) : fi_parts ft gw gp c (n - p) p P = if p < n then fi_parts ft gw gp c (n - (p + 1)) (p + 1) (fi_part ft gw gp c p P) else P := by
  by_cases h : p < n
  · rw [if_pos h, show n - p = (n - (p + 1)) + 1 by omega]; rfl
  · rw [if_neg h, show n - p = 0 by omega]; rfl
def fi_all (ft gw gp : Nat → Int32) (c : Nat) (P : PS) : PS := fi_parts ft gw gp c (P.2.2.1 23 (c + 1) - P.2.2.1 23 c) (P.2.2.1 23 c) (fi_0 (P.2.2.1 36 (c + 1) - P.2.2.1 36 c) (P.2.2.1 36 c) P)
/-- checkRight -/
def m_set (n i : Nat) : Nat := (2 ^ n - 1) * 2 ^ i
def q_low (o : Option Nat) (i : Nat) : Nat := if o = none then 0 else i
def ci_1 (l : Nat) (P : PS) : PS := match P.2.2.2.1 33 l with
  | none => P
  | some z => sp_note 5 z P
def ci_2 (l y : Nat) (ob : Bool) (P : PS) : PS := if ob = true ∧ P.2.2.2.2 40 y = true then sp_note 3 (P.2.2.1 32 l) P else P
def ci_3 (l y : Nat) (ob : Bool) (P : PS) : PS := if ob = false ∧ P.2.2.2.1 39 y = some 0 then sp_note 4 (P.2.2.1 32 l) P else P
def ci_4 (l y : Nat) (ob : Bool) (bo : Option Nat) (P : PS) : PS := if ob = false ∧ (∃ w, P.2.2.2.1 39 y = some w ∧ 0 < w) ∧ P.2.2.2.1 33 l = none ∧ bo ≠ none ∧ P.2.2.2.1 39 y ≠ bo then sp_note 5 (P.2.2.1 32 l) P else P
def ci_5 (y : Nat) (ob : Bool) (P : PS) : PS := abs_ P 40 y (P.2.2.2.2 40 y || ob)
def cr_in (l y : Nat) (ob : Bool) (bo : Option Nat) (P : PS) : PS := ci_5 y ob (ci_4 l y ob bo (ci_3 l y ob (ci_2 l y ob (ci_1 l P))))
def cq_1 (l x : Nat) (bo : Option Nat) (P : PS) : PS := if bo ≠ none ∧ ¬ bo = some (m_bits (P.2.2.2.1 33 l) (P.2.2.1 34 l) (P.2.2.1 35 l) (P.2.2.1 21 x)) then sp_note 5 (P.2.2.1 32 l) P else P
def q_rs (P : PS) (l x : Nat) : Nat := m_set (m_bits (P.2.2.2.1 33 l) (P.2.2.1 34 l) (P.2.2.1 35 l) (P.2.2.1 21 x)) (q_low (P.2.2.2.1 33 l) (P.2.2.1 34 l))
def cq_2 (l x : Nat) (P : PS) : PS := if P.2.2.1 49 x &&& q_rs P l x = 0 then P else sp_note 3 (P.2.2.1 32 l) P
def cq_3 (l x : Nat) (P : PS) : PS := ars P 49 x (P.2.2.1 49 x ||| q_rs P l x)
def cr_pin (l x : Nat) (ob : Bool) (bo : Option Nat) (P : PS) : PS :=
  if P.2.2.2.2 19 x = ob then (if m_fits (P.2.2.2.1 33 l) (P.2.2.1 34 l) (P.2.2.1 35 l) (P.2.2.1 21 x) = true then (if ob = true then cq_3 l x (cq_2 l x (cq_1 l x bo P)) else cq_1 l x bo P) else sp_note 5 ((P.2.2.2.1 33 l).getD 0) P) else sp_note 4 (P.2.2.1 32 l) P
def cr_ (ft : Nat → Int32) (c l : Nat) (ob : Bool) (bo : Option Nat) (P : PS) : PS :=
  if P.2.2.1 7 (P.2.2.1 32 l) = 1 then (match q_own ft P c (P.2.2.1 32 l) with
    | some x => cr_pin l x ob bo P
    | none => match q_inn ft P c (P.2.2.1 32 l) with
      | none => P
      | some y => cr_in l y ob bo P) else if ob = true then sp_note 4 (P.2.2.1 32 l) P else P
/-- checkLinks -/
def q_ls (P : PS) (i x l : Nat) : Nat := m_set (m_bits (P.2.2.2.1 29 l) (P.2.2.1 30 l) (P.2.2.1 31 l) (m_wd (P.2.2.1 21) i x)) (q_low (P.2.2.2.1 29 l) (P.2.2.1 30 l))
def cl_1 (i x l : Nat) (P : PS) : PS := if q_lb P i x l = none then sp_note 5 ((P.2.2.2.1 29 l).getD 0) P else P
def cl_2 (i x l : Nat) (P : PS) : PS := if P.2.2.1 48 x &&& q_ls P i x l = 0 then P else sp_note 3 (P.2.2.1 28 l) P
def cl_3 (i x l : Nat) (P : PS) : PS := ars P 48 x (P.2.2.1 48 x ||| q_ls P i x l)
def cl_23 (i x l : Nat) (P : PS) : PS := if q_lb P i x l ≠ none ∧ m_isOut (P.2.2.2.2 19) i x = false then cl_3 i x l (cl_2 i x l P) else P
def cl_link (ft gp : Nat → Int32) (c i l : Nat) (P : PS) : PS := match q_pin ft gp P i (P.2.2.1 28 l) with
  | none => sp_note 4 (P.2.2.1 28 l) P
  | some x => cr_ ft c l (m_isOut (P.2.2.2.2 19) i x) (q_lb P i x l) (cl_23 i x l (cl_1 i x l P))
/-! The desk's way through one link: the first fault that it finds (number, token), and the rows -/
def kr_in (l y : Nat) (ob : Bool) (b : Nat) (S : PS) : Option (Nat × Nat) × PS :=
  if ob = true then (if S.2.2.2.2 40 y = true then (some (3, S.2.2.1 32 l), S) else match S.2.2.2.1 33 l with
    | some z => (some (5, z), S)
    | none => (none, abs_ S 40 y true))
  else if S.2.2.2.1 39 y = some 0 then (some (4, S.2.2.1 32 l), S) else match S.2.2.2.1 33 l with
    | some z => (some (5, z), S)
    | none => (if S.2.2.2.1 39 y = none ∨ S.2.2.2.1 39 y = some b then none else some (5, S.2.2.1 32 l), S)
def kr_pin (l x : Nat) (ob : Bool) (b : Nat) (S : PS) : Option (Nat × Nat) × PS :=
  if S.2.2.2.2 19 x = ob then (if m_fits (S.2.2.2.1 33 l) (S.2.2.1 34 l) (S.2.2.1 35 l) (S.2.2.1 21 x) = true then
      (if ob = true then (if S.2.2.1 49 x &&& q_rs S l x = 0 then (if m_bits (S.2.2.2.1 33 l) (S.2.2.1 34 l) (S.2.2.1 35 l) (S.2.2.1 21 x) = b then none else some (5, S.2.2.1 32 l), cq_3 l x S) else (some (3, S.2.2.1 32 l), S))
        else (if m_bits (S.2.2.2.1 33 l) (S.2.2.1 34 l) (S.2.2.1 35 l) (S.2.2.1 21 x) = b then none else some (5, S.2.2.1 32 l), S))
      else (some (5, (S.2.2.2.1 33 l).getD 0), S))
  else (some (4, S.2.2.1 32 l), S)
def kr_ (ft : Nat → Int32) (c l : Nat) (ob : Bool) (b : Nat) (S : PS) : Option (Nat × Nat) × PS :=
  if S.2.2.1 7 (S.2.2.1 32 l) = 1 then (match q_own ft S c (S.2.2.1 32 l) with
    | some x => kr_pin l x ob b S
    | none => match q_inn ft S c (S.2.2.1 32 l) with
      | none => (none, S)
      | some y => kr_in l y ob b S) else if ob = true then (some (4, S.2.2.1 32 l), S) else (none, S)
def kl_link (ft gp : Nat → Int32) (c i l : Nat) (S : PS) : Option (Nat × Nat) × PS := match q_pin ft gp S i (S.2.2.1 28 l) with
  | none => (some (4, S.2.2.1 28 l), S)
  | some x => match q_lb S i x l with
    | none => (some (5, (S.2.2.2.1 29 l).getD 0), S)
    | some b => if m_isOut (S.2.2.2.2 19) i x = true then kr_ ft c l true b S
      else if S.2.2.1 48 x &&& q_ls S i x l = 0 then kr_ ft c l false b (cl_3 i x l S) else (some (3, S.2.2.1 28 l), S)
/-! Notes: the least one stays -/
theorem nt_2 (n t : Nat) (P : PS) : (sp_note n t P).2 = P.2 := by unfold sp_note; split <;> rfl
theorem nt_k (n t : Nat) (P : PS) {k : Nat} (h5 : k ≠ 5) (h6 : k ≠ 6) : (sp_note n t P).1 k = P.1 k := by
  unfold sp_note; split
  · rfl
  · show (if k = 6 then _ else (if k = 5 then _ else P.1 k)) = _; rw [if_neg h6, if_neg h5]
/-- nothing was noted at or ahead of token t -/
def abv (t : Nat) (P : PS) : Prop := P.1 5 = 0 ∨ P.2.2.1 8 t < P.1 6
theorem nt_new {n t : Nat} {P : PS} (h : abv t P) : (sp_note n t P).1 5 = n ∧ (sp_note n t P).1 6 = P.2.2.1 8 t := by
  unfold sp_note
  rw [if_neg (by rintro ⟨h1, h2⟩; rcases h with h | h <;> omega)]
  exact ⟨rfl, rfl⟩
theorem nt_old {n t : Nat} {P : PS} (h : 0 < P.1 5) (h6 : P.1 6 < P.2.2.1 8 t ∨ (P.1 6 = P.2.2.1 8 t ∧ P.1 5 ≤ n)) : sp_note n t P = P := by
  unfold sp_note; rw [if_pos ⟨h, h6⟩]
theorem nt_less {n t : Nat} {P : PS} (h6 : P.1 6 = P.2.2.1 8 t) (h5 : n < P.1 5) : (sp_note n t P).1 5 = n ∧ (sp_note n t P).1 6 = P.2.2.1 8 t := by
  unfold sp_note
  rw [if_neg (by rintro ⟨h1, h2⟩; omega)]
  exact ⟨rfl, rfl⟩
/-! One link: the reference's least note is the desk's first fault -/
/-- what the checks leave as it was -/
def kp (P X : PS) : Prop := (∀ k, k ≠ 5 → k ≠ 6 → X.1 k = P.1 k) ∧ (∀ k, k ≠ 48 → k ≠ 49 → X.2.2.1 k = P.2.2.1 k) ∧ (∀ k, k ≠ 39 → k ≠ 44 → X.2.2.2.1 k = P.2.2.2.1 k) ∧ (∀ k, k ≠ 40 → X.2.2.2.2 k = P.2.2.2.2 k)
theorem kp_rfl (P : PS) : kp P P := ⟨fun _ _ _ => rfl, fun _ _ _ => rfl, fun _ _ _ => rfl, fun _ _ => rfl⟩
theorem kp_tr {P X Y : PS} (h : kp P X) (g : kp X Y) : kp P Y := ⟨fun k a b => (g.1 k a b).trans (h.1 k a b), fun k a b => (g.2.1 k a b).trans (h.2.1 k a b), fun k a b => (g.2.2.1 k a b).trans (h.2.2.1 k a b), fun k a => (g.2.2.2 k a).trans (h.2.2.2 k a)⟩
theorem kp_nt (n t : Nat) (P : PS) : kp P (sp_note n t P) := ⟨fun k a b => nt_k n t P a b, fun _ _ _ => by rw [nt_2], fun _ _ _ => by rw [nt_2], fun _ _ => by rw [nt_2]⟩
theorem kp_ars {P : PS} {k i v : Nat} (h : k = 48 ∨ k = 49) : kp P (ars P k i v) := by
  refine ⟨fun _ _ _ => rfl, fun k' a b => ?_, fun _ _ _ => rfl, fun _ _ => rfl⟩
  show (if k' = k then _ else P.2.2.1 k') = _
  rw [if_neg (by omega)]
theorem kp_abs {P : PS} {i : Nat} {v : Bool} : kp P (abs_ P 40 i v) := by
  refine ⟨fun _ _ _ => rfl, fun _ _ _ => rfl, fun _ _ _ => rfl, fun k' a => ?_⟩
  show (if k' = 40 then _ else P.2.2.2.2 k') = _
  rw [if_neg a]
theorem kp_aos {P : PS} {k i : Nat} {v : Option Nat} (h : k = 39 ∨ k = 44) : kp P (aos P k i v) := by
  refine ⟨fun _ _ _ => rfl, fun _ _ _ => rfl, fun k' a b => ?_, fun _ _ => rfl⟩
  show (if k' = k then _ else P.2.2.2.1 k') = _
  rw [if_neg (by omega)]
theorem kp_ite {P X Y : PS} {c : Prop} [Decidable c] (h : kp P X) (g : kp P Y) : kp P (if c then X else Y) := by split <;> assumption
theorem kp_cin (l y : Nat) (ob : Bool) (bo : Option Nat) (P : PS) : kp P (cr_in l y ob bo P) := by
  have h1 : kp P (ci_1 l P) := by unfold ci_1; split; exact kp_rfl P; exact kp_nt _ _ P
  have h2 : kp P (ci_2 l y ob (ci_1 l P)) := kp_tr h1 (by unfold ci_2; exact kp_ite (kp_nt _ _ _) (kp_rfl _))
  have h3 : kp P (ci_3 l y ob (ci_2 l y ob (ci_1 l P))) := kp_tr h2 (by unfold ci_3; exact kp_ite (kp_nt _ _ _) (kp_rfl _))
  have h4 : kp P (ci_4 l y ob bo (ci_3 l y ob (ci_2 l y ob (ci_1 l P)))) := kp_tr h3 (by unfold ci_4; exact kp_ite (kp_nt _ _ _) (kp_rfl _))
  exact kp_tr h4 kp_abs
theorem kp_cq1 (l x : Nat) (bo : Option Nat) (P : PS) : kp P (cq_1 l x bo P) := by unfold cq_1; exact kp_ite (kp_nt _ _ _) (kp_rfl _)
theorem kp_cpin (l x : Nat) (ob : Bool) (bo : Option Nat) (P : PS) : kp P (cr_pin l x ob bo P) := by
  unfold cr_pin
  refine kp_ite (kp_ite (kp_ite ?_ (kp_cq1 l x bo P)) (kp_nt _ _ _)) (kp_nt _ _ _)
  exact kp_tr (kp_cq1 l x bo P) (kp_tr (by unfold cq_2; exact kp_ite (kp_rfl _) (kp_nt _ _ _)) (kp_ars (Or.inr rfl)))
theorem kp_cr (ft : Nat → Int32) (c l : Nat) (ob : Bool) (bo : Option Nat) (P : PS) : kp P (cr_ ft c l ob bo P) := by
  unfold cr_
  refine kp_ite ?_ (kp_ite (kp_nt _ _ _) (kp_rfl _))
  split
  · exact kp_cpin _ _ _ _ P
  · split
    · exact kp_rfl P
    · exact kp_cin _ _ _ _ P
/-- something was noted ahead of the right side: it stays -/
def blw (l : Nat) (P : PS) : Prop := 0 < P.1 5 ∧ P.1 6 < P.2.2.1 8 (P.2.2.1 32 l) ∧ ∀ z, P.2.2.2.1 33 l = some z → P.1 6 < P.2.2.1 8 z
theorem blw_ra {l n : Nat} {P : PS} (h : blw l P) : sp_note n (P.2.2.1 32 l) P = P := nt_old h.1 (Or.inl h.2.1)
theorem blw_rr {l n z : Nat} {P : PS} (h : blw l P) (hz : P.2.2.2.1 33 l = some z) : sp_note n z P = P := nt_old h.1 (Or.inl (h.2.2 z hz))
theorem m_fits_some {o : Option Nat} {i j n : Nat} (h : ¬ m_fits o i j n = true) : ∃ z, o = some z := by
  cases o with
  | none => exact absurd (by unfold m_fits; rw [if_pos rfl]) h
  | some z => exact ⟨z, rfl⟩
theorem cr_blw {ft : Nat → Int32} {c l : Nat} {ob : Bool} {bo : Option Nat} {P : PS} (h : blw l P) : (cr_ ft c l ob bo P).1 = P.1 := by
  unfold cr_
  split
  · split
    · rename_i x _
      unfold cr_pin
      have e1 : cq_1 l x bo P = P := by unfold cq_1; split; exact blw_ra h; rfl
      split
      · split
        · split
          · rw [e1]
            have e2 : cq_2 l x P = P := by unfold cq_2; split; rfl; exact blw_ra h
            rw [e2]; rfl
          · rw [e1]
        · rename_i hf
          obtain ⟨z, hz⟩ := m_fits_some hf
          rw [hz]; show (sp_note 5 z P).1 = _; rw [blw_rr h hz]
      · rw [blw_ra h]
    · split
      · rfl
      · rename_i y _
        unfold cr_in
        have e1 : ci_1 l P = P := by
          unfold ci_1; split
          · rfl
          · rename_i z hz; exact blw_rr h hz
        have e2 : ci_2 l y ob P = P := by unfold ci_2; split; exact blw_ra h; rfl
        have e3 : ci_3 l y ob P = P := by unfold ci_3; split; exact blw_ra h; rfl
        have e4 : ci_4 l y ob bo P = P := by unfold ci_4; split; exact blw_ra h; rfl
        rw [e1, e2, e3, e4]; rfl
  · split
    · rw [blw_ra h]
    · rfl
/-- nothing was noted at or ahead of the right side -/
def abr (l : Nat) (P : PS) : Prop := abv (P.2.2.1 32 l) P ∧ (∀ z, P.2.2.2.1 33 l = some z → abv z P ∧ P.2.2.1 8 (P.2.2.1 32 l) < P.2.2.1 8 z)
/-- the desk's answer at a link against the reference's: no fault, the same rows; or the fault is noted -/
def cmp (P X : PS) (r : Option (Nat × Nat) × PS) : Prop := (r.1 = none → X.2 = r.2.2 ∧ X.1 = P.1) ∧ ∀ n t, r.1 = some (n, t) → X.1 5 = n ∧ X.1 6 = P.2.2.1 8 t
theorem cmp_ok {P X Y : PS} (h : X.2 = Y.2) (h1 : X.1 = P.1) : cmp P X (none, Y) := ⟨fun _ => ⟨h, h1⟩, fun _ _ h => by cases h⟩
theorem cmp_no {P X Y : PS} {n t : Nat} (h : X.1 5 = n ∧ X.1 6 = P.2.2.1 8 t) : cmp P X (some (n, t), Y) := by
  refine ⟨fun q => ?_, fun _ _ q => ?_⟩
  · cases q
  · cases q; exact h
theorem cin_cmp {l y b : Nat} {ob : Bool} {P S : PS} (e : P.2 = S.2) (h : abr l P) : cmp P (cr_in l y ob (some b) P) (kr_in l y ob b S) := by
  obtain ⟨ha, hr⟩ := h
  unfold kr_in
  rw [← e]
  have x5 : ∀ X : PS, (ci_5 y ob X).1 = X.1 := fun _ => rfl
  cases ob with
  | true =>
    rw [if_pos rfl]
    have e3 : ∀ X : PS, ci_3 l y true X = X := fun X => by unfold ci_3; rw [if_neg (by rintro ⟨q, -⟩; cases q)]
    have e4 : ∀ X : PS, ci_4 l y true (some b) X = X := fun X => by unfold ci_4; rw [if_neg (by rintro ⟨q, -⟩; cases q)]
    unfold cr_in
    rw [e3, e4]
    by_cases hl : P.2.2.2.2 40 y = true
    · rw [if_pos hl]
      refine cmp_no ?_
      rw [x5]
      cases hz : P.2.2.2.1 33 l with
      | none =>
        have e1 : ci_1 l P = P := by unfold ci_1; rw [hz]
        have e2 : ci_2 l y true P = sp_note 3 (P.2.2.1 32 l) P := by unfold ci_2; rw [if_pos ⟨rfl, hl⟩]
        rw [e1, e2]; exact nt_new ha
      | some z =>
        have e1 : ci_1 l P = sp_note 5 z P := by unfold ci_1; rw [hz]
        obtain ⟨h1, h2⟩ := hr z hz
        have n1 := nt_new (n := 5) h1
        have e2 : ci_2 l y true (sp_note 5 z P) = sp_note 3 (P.2.2.1 32 l) (sp_note 5 z P) := by unfold ci_2; rw [nt_2, if_pos ⟨rfl, hl⟩]
        rw [e1, e2]
        have := nt_new (n := 3) (t := P.2.2.1 32 l) (P := sp_note 5 z P) (Or.inr (by rw [nt_2, n1.2]; exact h2))
        rw [nt_2] at this; exact this
    · rw [if_neg hl]
      cases hz : P.2.2.2.1 33 l with
      | none =>
        have e1 : ci_1 l P = P := by unfold ci_1; rw [hz]
        have e2 : ci_2 l y true P = P := by unfold ci_2; rw [if_neg (fun q => hl q.2)]
        rw [e1, e2]
        refine cmp_ok ?_ rfl
        show (abs_ P 40 y (P.2.2.2.2 40 y || true)).2 = (abs_ S 40 y true).2
        rw [Bool.or_true]
        show (P.2.1, P.2.2.1, P.2.2.2.1, va_up P.2.2.2.2 40 (va_up (P.2.2.2.2 40) y true)) = (S.2.1, S.2.2.1, S.2.2.2.1, va_up S.2.2.2.2 40 (va_up (S.2.2.2.2 40) y true))
        rw [e]
      | some z =>
        have e1 : ci_1 l P = sp_note 5 z P := by unfold ci_1; rw [hz]
        have e2 : ci_2 l y true (sp_note 5 z P) = sp_note 5 z P := by unfold ci_2; rw [nt_2, if_neg (fun q => hl q.2)]
        rw [e1, e2]
        exact cmp_no (nt_new (hr z hz).1)
  | false =>
    rw [if_neg (by decide)]
    have e2 : ∀ X : PS, ci_2 l y false X = X := fun X => by unfold ci_2; rw [if_neg (by rintro ⟨q, -⟩; cases q)]
    unfold cr_in
    rw [e2]
    by_cases hg : P.2.2.2.1 39 y = some 0
    · rw [if_pos hg]
      refine cmp_no ?_
      rw [x5]
      cases hz : P.2.2.2.1 33 l with
      | none =>
        have e1 : ci_1 l P = P := by unfold ci_1; rw [hz]
        have e3 : ci_3 l y false P = sp_note 4 (P.2.2.1 32 l) P := by unfold ci_3; rw [if_pos ⟨rfl, hg⟩]
        have e4 : ci_4 l y false (some b) (sp_note 4 (P.2.2.1 32 l) P) = sp_note 4 (P.2.2.1 32 l) P := by
          unfold ci_4; rw [nt_2, if_neg]; rintro ⟨-, ⟨w, q1, q2⟩, -⟩; rw [hg] at q1; cases q1; omega
        rw [e1, e3, e4]; exact nt_new ha
      | some z =>
        have e1 : ci_1 l P = sp_note 5 z P := by unfold ci_1; rw [hz]
        obtain ⟨h1, h2⟩ := hr z hz
        have n1 := nt_new (n := 5) h1
        have e3 : ci_3 l y false (sp_note 5 z P) = sp_note 4 (P.2.2.1 32 l) (sp_note 5 z P) := by unfold ci_3; rw [nt_2, if_pos ⟨rfl, hg⟩]
        have e4 : ci_4 l y false (some b) (sp_note 4 (P.2.2.1 32 l) (sp_note 5 z P)) = sp_note 4 (P.2.2.1 32 l) (sp_note 5 z P) := by
          unfold ci_4; rw [nt_2, nt_2, if_neg]; rintro ⟨-, ⟨w, q1, q2⟩, -⟩; rw [hg] at q1; cases q1; omega
        rw [e1, e3, e4]
        have := nt_new (n := 4) (t := P.2.2.1 32 l) (P := sp_note 5 z P) (Or.inr (by rw [nt_2, n1.2]; exact h2))
        rw [nt_2] at this; exact this
    · rw [if_neg hg]
      cases hz : P.2.2.2.1 33 l with
      | none =>
        have e1 : ci_1 l P = P := by unfold ci_1; rw [hz]
        have e3 : ci_3 l y false P = P := by unfold ci_3; rw [if_neg (fun q => hg q.2)]
        rw [e1, e3]
        by_cases hw : P.2.2.2.1 39 y = none ∨ P.2.2.2.1 39 y = some b
        · have e4 : ci_4 l y false (some b) P = P := by
            unfold ci_4; rw [if_neg]
            rintro ⟨-, ⟨w, q1, q2⟩, -, -, q5⟩
            rcases hw with q | q
            · rw [q] at q1; cases q1
            · exact q5 q
          rw [e4]
          show cmp P _ (if P.2.2.2.1 39 y = none ∨ P.2.2.2.1 39 y = some b then none else _, S)
          rw [if_pos hw]
          refine cmp_ok ?_ rfl
          show (abs_ P 40 y (P.2.2.2.2 40 y || false)).2 = S.2
          rw [Bool.or_false, ← e]
          show (P.2.1, P.2.2.1, P.2.2.2.1, va_up P.2.2.2.2 40 (va_up (P.2.2.2.2 40) y (P.2.2.2.2 40 y))) = P.2
          have u1 : va_up (P.2.2.2.2 40) y (P.2.2.2.2 40 y) = P.2.2.2.2 40 := by
            funext j; unfold va_up; split
            · rename_i q; rw [q]
            · rfl
          have u2 : va_up P.2.2.2.2 40 (P.2.2.2.2 40) = P.2.2.2.2 := by
            funext j; unfold va_up; split
            · rename_i q; rw [q]
            · rfl
          rw [u1, u2]
        · have e4 : ci_4 l y false (some b) P = sp_note 5 (P.2.2.1 32 l) P := by
            unfold ci_4; rw [if_pos]
            refine ⟨rfl, ?_, hz, by simp, fun q => hw (Or.inr q)⟩
            cases hq : P.2.2.2.1 39 y with
            | none => exact absurd (Or.inl hq) hw
            | some w =>
              refine ⟨w, rfl, ?_⟩
              rcases Nat.eq_zero_or_pos w with q | q
              · subst q; exact absurd hq hg
              · exact q
          rw [e4]
          show cmp P _ (if P.2.2.2.1 39 y = none ∨ P.2.2.2.1 39 y = some b then none else _, S)
          rw [if_neg hw]
          exact cmp_no (nt_new ha)
      | some z =>
        have e1 : ci_1 l P = sp_note 5 z P := by unfold ci_1; rw [hz]
        have e3 : ci_3 l y false (sp_note 5 z P) = sp_note 5 z P := by unfold ci_3; rw [nt_2, if_neg (fun q => hg q.2)]
        have e4 : ci_4 l y false (some b) (sp_note 5 z P) = sp_note 5 z P := by
          unfold ci_4; rw [nt_2, if_neg]; rintro ⟨-, -, q, -⟩; rw [hz] at q; cases q
        rw [e1, e3, e4]
        exact cmp_no (nt_new (hr z hz).1)
theorem cpin_cmp {l x b : Nat} {ob : Bool} {P S : PS} (e : P.2 = S.2) (h : abr l P) : cmp P (cr_pin l x ob (some b) P) (kr_pin l x ob b S) := by
  obtain ⟨ha, hr⟩ := h
  have er : q_rs S l x = q_rs P l x := by unfold q_rs; rw [e]
  have e3 : (cq_3 l x S).2 = (cq_3 l x P).2 := by
    show (S.2.1, va_up S.2.2.1 49 (va_up (S.2.2.1 49) x (S.2.2.1 49 x ||| q_rs S l x)), S.2.2.2) = (P.2.1, va_up P.2.2.1 49 (va_up (P.2.2.1 49) x (P.2.2.1 49 x ||| q_rs P l x)), P.2.2.2)
    rw [er, e]
  unfold kr_pin cr_pin
  rw [er, ← e]
  by_cases ho : P.2.2.2.2 19 x = ob
  · rw [if_pos ho, if_pos ho]
    by_cases hf : m_fits (P.2.2.2.1 33 l) (P.2.2.1 34 l) (P.2.2.1 35 l) (P.2.2.1 21 x) = true
    · rw [if_pos hf, if_pos hf]
      by_cases hm : m_bits (P.2.2.2.1 33 l) (P.2.2.1 34 l) (P.2.2.1 35 l) (P.2.2.1 21 x) = b
      · have e1 : cq_1 l x (some b) P = P := by unfold cq_1; rw [if_neg (fun q => q.2 (by rw [hm]))]
        rw [e1]
        by_cases hob : ob = true
        · rw [if_pos hob, if_pos hob]
          by_cases hs : P.2.2.1 49 x &&& q_rs P l x = 0
          · have e2 : cq_2 l x P = P := by unfold cq_2; rw [if_pos hs]
            rw [if_pos hs, e2, if_pos hm]
            exact cmp_ok e3.symm rfl
          · have e2 : cq_2 l x P = sp_note 3 (P.2.2.1 32 l) P := by unfold cq_2; rw [if_neg hs]
            rw [if_neg hs, e2]
            exact cmp_no (nt_new ha)
        · rw [if_neg hob, if_neg hob, if_pos hm]
          exact cmp_ok e rfl
      · have e1 : cq_1 l x (some b) P = sp_note 5 (P.2.2.1 32 l) P := by
          unfold cq_1; rw [if_pos ⟨by simp, fun q => hm (by cases q; rfl)⟩]
        rw [e1]
        have n1 := nt_new (n := 5) ha
        by_cases hob : ob = true
        · rw [if_pos hob, if_pos hob]
          have er2 : q_rs (sp_note 5 (P.2.2.1 32 l) P) l x = q_rs P l x := by unfold q_rs; rw [nt_2]
          by_cases hs : P.2.2.1 49 x &&& q_rs P l x = 0
          · have e2 : cq_2 l x (sp_note 5 (P.2.2.1 32 l) P) = sp_note 5 (P.2.2.1 32 l) P := by unfold cq_2; rw [er2, nt_2, if_pos hs]
            rw [if_pos hs, e2, if_neg hm]
            exact cmp_no n1
          · have e2 : cq_2 l x (sp_note 5 (P.2.2.1 32 l) P) = sp_note 3 (P.2.2.1 32 l) (sp_note 5 (P.2.2.1 32 l) P) := by unfold cq_2; rw [er2, nt_2, if_neg hs]
            rw [if_neg hs, e2]
            refine cmp_no ?_
            have := nt_less (n := 3) (t := P.2.2.1 32 l) (P := sp_note 5 (P.2.2.1 32 l) P) (by rw [nt_2]; exact n1.2) (by rw [n1.1]; decide)
            rw [nt_2] at this; exact this
        · rw [if_neg hob, if_neg hob, if_neg hm]
          exact cmp_no n1
    · rw [if_neg hf, if_neg hf]
      obtain ⟨z, hz⟩ := m_fits_some hf
      rw [hz]
      exact cmp_no (nt_new (hr z hz).1)
  · rw [if_neg ho, if_neg ho]
    exact cmp_no (nt_new ha)
theorem cr_cmp {ft : Nat → Int32} {c l b : Nat} {ob : Bool} {P S : PS} (e : P.2 = S.2) (h : abr l P) : cmp P (cr_ ft c l ob (some b) P) (kr_ ft c l ob b S) := by
  have eo : q_own ft S c (P.2.2.1 32 l) = q_own ft P c (P.2.2.1 32 l) := by unfold q_own; rw [e]
  have ei : q_inn ft S c (P.2.2.1 32 l) = q_inn ft P c (P.2.2.1 32 l) := by unfold q_inn; rw [e]
  unfold kr_ cr_
  rw [show S.2.2.1 32 l = P.2.2.1 32 l by rw [e], show S.2.2.1 7 (P.2.2.1 32 l) = P.2.2.1 7 (P.2.2.1 32 l) by rw [e], eo, ei]
  split
  · cases q_own ft P c (P.2.2.1 32 l) with
    | some x => exact cpin_cmp e h
    | none =>
      cases q_inn ft P c (P.2.2.1 32 l) with
      | none => exact cmp_ok e rfl
      | some y => exact cin_cmp e h
  · split
    · exact cmp_no (nt_new h.1)
    · exact cmp_ok e rfl
/-- the tokens of link l in their order, by their places -/
def lto (l : Nat) (P : PS) : Prop := (P.2.2.1 8 (P.2.2.1 28 l) < P.2.2.1 8 (P.2.2.1 32 l)) ∧ (∀ z, P.2.2.2.1 29 l = some z → P.2.2.1 8 (P.2.2.1 28 l) < P.2.2.1 8 z ∧ P.2.2.1 8 z < P.2.2.1 8 (P.2.2.1 32 l)) ∧ (∀ z, P.2.2.2.1 33 l = some z → P.2.2.1 8 (P.2.2.1 32 l) < P.2.2.1 8 z)
theorem lto.a {l : Nat} {P : PS} (h : lto l P) : P.2.2.1 8 (P.2.2.1 28 l) < P.2.2.1 8 (P.2.2.1 32 l) := h.1
theorem lto.r {l : Nat} {P : PS} (h : lto l P) : ∀ z, P.2.2.2.1 29 l = some z → P.2.2.1 8 (P.2.2.1 28 l) < P.2.2.1 8 z ∧ P.2.2.1 8 z < P.2.2.1 8 (P.2.2.1 32 l) := h.2.1
theorem lto.e {l : Nat} {P : PS} (h : lto l P) : ∀ z, P.2.2.2.1 33 l = some z → P.2.2.1 8 (P.2.2.1 32 l) < P.2.2.1 8 z := h.2.2
/-- nothing was noted at or ahead of the last token of link l -/
def abl (l : Nat) (P : PS) : Prop := P.1 5 = 0 ∨ (P.2.2.1 8 (P.2.2.1 32 l) < P.1 6 ∧ ∀ z, P.2.2.2.1 33 l = some z → P.2.2.1 8 z < P.1 6)
theorem abl_r {l : Nat} {P : PS} (h : abl l P) (t : lto l P) : abr l P := by
  refine ⟨?_, fun z hz => ⟨?_, t.e z hz⟩⟩
  · rcases h with h | h
    · exact Or.inl h
    · exact Or.inr h.1
  · rcases h with h | h
    · exact Or.inl h
    · exact Or.inr (h.2 z hz)
theorem q_lb_2 {P S : PS} (e : P.2 = S.2) (i x l : Nat) : q_lb S i x l = q_lb P i x l := by unfold q_lb; rw [e]
theorem q_pin_2 {ft gp : Nat → Int32} {P S : PS} (e : P.2 = S.2) (i t : Nat) : q_pin ft gp S i t = q_pin ft gp P i t := by unfold q_pin q_own q_word; rw [e]
theorem q_lb_none {P : PS} {i x l : Nat} (h : q_lb P i x l = none) : ∃ z, P.2.2.2.1 29 l = some z := by
  unfold q_lb at h
  split at h
  · cases h
  · rename_i q; exact m_fits_some q
theorem cl_cmp {ft gp : Nat → Int32} {c i l : Nat} {P S : PS} (e : P.2 = S.2) (t : lto l P) (h : abl l P) : cmp P (cl_link ft gp c i l P) (kl_link ft gp c i l S) := by
  have la : abv (P.2.2.1 28 l) P := by
    rcases h with h | h
    · exact Or.inl h
    · exact Or.inr (Nat.lt_trans t.a h.1)
  unfold cl_link kl_link
  rw [show S.2.2.1 28 l = P.2.2.1 28 l by rw [e], q_pin_2 e]
  cases q_pin ft gp P i (P.2.2.1 28 l) with
  | none => exact cmp_no (nt_new la)
  | some x =>
    show cmp P (cr_ ft c l (m_isOut (P.2.2.2.2 19) i x) (q_lb P i x l) (cl_23 i x l (cl_1 i x l P))) (match q_lb S i x l with
      | none => (some (5, (S.2.2.2.1 29 l).getD 0), S)
      | some b => if m_isOut (S.2.2.2.2 19) i x = true then kr_ ft c l true b S
        else if S.2.2.1 48 x &&& q_ls S i x l = 0 then kr_ ft c l false b (cl_3 i x l S) else (some (3, P.2.2.1 28 l), S))
    have els : q_ls S i x l = q_ls P i x l := by unfold q_ls; rw [e]
    rw [q_lb_2 e, els, show S.2.2.2.2 19 = P.2.2.2.2 19 by rw [e], show S.2.2.1 48 x = P.2.2.1 48 x by rw [e], show S.2.2.2.1 29 l = P.2.2.2.1 29 l by rw [e]]
    cases hb : q_lb P i x l with
    | none =>
      obtain ⟨z, hz⟩ := q_lb_none hb
      have hz1 := t.r z hz
      have e1 : cl_1 i x l P = sp_note 5 z P := by unfold cl_1; rw [if_pos hb, hz]; rfl
      have n1 : (sp_note 5 z P).1 5 = 5 ∧ (sp_note 5 z P).1 6 = P.2.2.1 8 z := nt_new (by
        rcases h with h | h
        · exact Or.inl h
        · exact Or.inr (Nat.lt_trans hz1.2 h.1))
      have e2 : cl_23 i x l (sp_note 5 z P) = sp_note 5 z P := by
        unfold cl_23; rw [if_neg]; rintro ⟨q, -⟩
        exact q (by unfold q_lb at hb ⊢; rw [nt_2]; exact hb)
      rw [e1, e2, hz]
      refine cmp_no ?_
      rw [cr_blw]
      · exact n1
      · refine ⟨by rw [n1.1]; decide, by rw [nt_2, n1.2]; exact hz1.2, fun z' hz' => ?_⟩
        rw [nt_2] at hz' ⊢
        rw [n1.2]; exact Nat.lt_trans hz1.2 (t.e z' hz')
    | some b =>
      have e1 : cl_1 i x l P = P := by unfold cl_1; rw [if_neg (by rw [hb]; simp)]
      rw [e1]
      show cmp P _ (if m_isOut (P.2.2.2.2 19) i x = true then kr_ ft c l true b S
        else if P.2.2.1 48 x &&& q_ls P i x l = 0 then kr_ ft c l false b (cl_3 i x l S) else (some (3, P.2.2.1 28 l), S))
      cases ho : m_isOut (P.2.2.2.2 19) i x with
      | true =>
        have e2 : cl_23 i x l P = P := by unfold cl_23; rw [if_neg]; rintro ⟨-, q⟩; rw [ho] at q; cases q
        rw [e2, if_pos rfl]
        exact cr_cmp e (abl_r h t)
      | false =>
        have e2 : cl_23 i x l P = cl_3 i x l (cl_2 i x l P) := by unfold cl_23; rw [if_pos ⟨by rw [hb]; simp, ho⟩]
        rw [e2, if_neg (by decide)]
        by_cases hs : P.2.2.1 48 x &&& q_ls P i x l = 0
        · have e3 : cl_2 i x l P = P := by unfold cl_2; rw [if_pos hs]
          rw [e3, if_pos hs]
          have e4 : (cl_3 i x l P).2 = (cl_3 i x l S).2 := by
            show (P.2.1, va_up P.2.2.1 48 (va_up (P.2.2.1 48) x (P.2.2.1 48 x ||| q_ls P i x l)), P.2.2.2) = (S.2.1, va_up S.2.2.1 48 (va_up (S.2.2.1 48) x (S.2.2.1 48 x ||| q_ls S i x l)), S.2.2.2)
            rw [els, e]
          have r := cr_cmp (ft := ft) (c := c) (l := l) (b := b) (ob := false) e4 (abl_r (P := cl_3 i x l P) h ⟨t.a, t.r, t.e⟩)
          exact ⟨fun q => ⟨(r.1 q).1, (r.1 q).2⟩, fun n t' q => r.2 n t' q⟩
        · have e3 : cl_2 i x l P = sp_note 3 (P.2.2.1 28 l) P := by unfold cl_2; rw [if_neg hs]
          have n1 := nt_new (n := 3) la
          rw [e3, if_neg hs]
          refine cmp_no ?_
          have b1 : (cl_3 i x l (sp_note 3 (P.2.2.1 28 l) P)).1 = (sp_note 3 (P.2.2.1 28 l) P).1 := rfl
          rw [cr_blw]
          · exact n1
          · refine ⟨by rw [b1, n1.1]; decide, ?_, fun z hz => ?_⟩
            · rw [b1, n1.2]
              show _ < (sp_note 3 (P.2.2.1 28 l) P).2.2.1 8 ((sp_note 3 (P.2.2.1 28 l) P).2.2.1 32 l)
              rw [nt_2]; exact t.a
            · rw [b1, n1.2]
              have hz : (sp_note 3 (P.2.2.1 28 l) P).2.2.2.1 33 l = some z := hz
              show _ < (sp_note 3 (P.2.2.1 28 l) P).2.2.1 8 z
              rw [nt_2] at hz ⊢
              exact Nat.lt_trans t.a (t.e z hz)
theorem kp_cl (ft gp : Nat → Int32) (c i l : Nat) (P : PS) : kp P (cl_link ft gp c i l P) := by
  unfold cl_link
  split
  · exact kp_nt _ _ _
  · rename_i x _
    have h1 : kp P (cl_1 i x l P) := by unfold cl_1; exact kp_ite (kp_nt _ _ _) (kp_rfl _)
    have h2 : kp P (cl_23 i x l (cl_1 i x l P)) := kp_tr h1 (by
      unfold cl_23
      refine kp_ite ?_ (kp_rfl _)
      exact kp_tr (by unfold cl_2; exact kp_ite (kp_rfl _) (kp_nt _ _ _)) (kp_ars (Or.inl rfl)))
    exact kp_tr h2 (kp_cr _ _ _ _ _ _)
/-- something was noted ahead of the link: it stays -/
theorem cl_blw {ft gp : Nat → Int32} {c i l : Nat} {P : PS} (t : lto l P) (h5 : 0 < P.1 5) (h6 : P.1 6 < P.2.2.1 8 (P.2.2.1 28 l)) : (cl_link ft gp c i l P).1 = P.1 := by
  unfold cl_link
  split
  · rw [nt_old h5 (Or.inl h6)]
  · rename_i x _
    have e1 : cl_1 i x l P = P := by
      unfold cl_1; split
      · rename_i q
        obtain ⟨z, hz⟩ := q_lb_none q
        rw [hz]
        exact nt_old h5 (Or.inl (Nat.lt_trans h6 (t.r z hz).1))
      · rfl
    rw [e1]
    have e2 : ∃ Y : PS, cl_23 i x l P = Y ∧ Y.1 = P.1 ∧ Y.2.2.1 8 = P.2.2.1 8 ∧ Y.2.2.1 32 = P.2.2.1 32 ∧ Y.2.2.2.1 33 = P.2.2.2.1 33 := by
      unfold cl_23; split
      · have e3 : cl_2 i x l P = P := by unfold cl_2; split; rfl; exact nt_old h5 (Or.inl h6)
        rw [e3]
        exact ⟨_, rfl, rfl, rfl, rfl, rfl⟩
      · exact ⟨_, rfl, rfl, rfl, rfl, rfl⟩
    obtain ⟨Y, hY, y1, y8, y32, y33⟩ := e2
    rw [hY, cr_blw, y1]
    refine ⟨by rw [y1]; exact h5, by rw [y1, y8, y32]; exact Nat.lt_trans h6 t.a, fun z hz => ?_⟩
    rw [y33] at hz
    rw [y1, y8]; exact Nat.lt_trans h6 (Nat.lt_trans t.a (t.e z hz))
/-! The links of a part, the parts of a chip -/
def cl_links (ft gp : Nat → Int32) (c i : Nat) : Nat → Nat → PS → PS
  | 0, _, P => P
  | k + 1, l, P => cl_links ft gp c i k (l + 1) (cl_link ft gp c i l P)
theorem cl_links_u (ft gp : Nat → Int32) (c i n l : Nat) (P : PS) : cl_links ft gp c i (n - l) l P = if l < n then cl_links ft gp c i (n - (l + 1)) (l + 1) (cl_link ft gp c i l P) else P := by
  by_cases h : l < n
  · rw [if_pos h, show n - l = (n - (l + 1)) + 1 by omega]; rfl
  · rw [if_neg h, show n - l = 0 by omega]; rfl
/-- a row of numbers from i on: all 0 -/
def rz (a : Nat) : Nat → Nat → PS → PS
  | 0, _, P => P
  | k + 1, i, P => rz a k (i + 1) (ars P a i 0)
theorem rz_u (a n i : Nat) (P : PS) : rz a (n - i) i P = if i < n then rz a (n - (i + 1)) (i + 1) (ars P a i 0) else P := by
  by_cases h : i < n
  · rw [if_pos h, show n - i = (n - (i + 1)) + 1 by omega]; rfl
  · rw [if_neg h, show n - i = 0 by omega]; rfl
def cl_part (ft gp : Nat → Int32) (c p : Nat) (P : PS) : PS := match P.2.2.2.1 44 p with
  | none => sp_note 4 (P.2.2.1 25 p) P
  | some i => cl_links ft gp c i (P.2.2.1 26 (p + 1) - P.2.2.1 26 p) (P.2.2.1 26 p) (rz 48 200 0 P)
def cl_parts (ft gp : Nat → Int32) (c : Nat) : Nat → Nat → PS → PS
  | 0, _, P => P
  | k + 1, p, P => cl_parts ft gp c k (p + 1) (cl_part ft gp c p P)
theorem cl_parts_u (ft gp : Nat → Int32) (c n p : Nat) (P : PS) : cl_parts ft gp c (n - p) p P = if p < n then cl_parts ft gp c (n - (p + 1)) (p + 1) (cl_part ft gp c p P) else P := by
  by_cases h : p < n
  · rw [if_pos h, show n - p = (n - (p + 1)) + 1 by omega]; rfl
  · rw [if_neg h, show n - p = 0 by omega]; rfl
def cl_all (ft gp : Nat → Int32) (c : Nat) (P : PS) : PS := cl_parts ft gp c (P.2.2.1 23 (c + 1) - P.2.2.1 23 c) (P.2.2.1 23 c) (rz 49 200 0 P)
/-- the desk -/
def kl_links (ft gp : Nat → Int32) (c i : Nat) : Nat → Nat → PS → Option (Nat × Nat) × PS
  | 0, _, S => (none, S)
  | k + 1, l, S => if (kl_link ft gp c i l S).1 = none then kl_links ft gp c i k (l + 1) (kl_link ft gp c i l S).2 else kl_link ft gp c i l S
def kl_part (ft gp : Nat → Int32) (c p : Nat) (S : PS) : Option (Nat × Nat) × PS := match S.2.2.2.1 44 p with
  | none => (some (4, S.2.2.1 25 p), S)
  | some i => kl_links ft gp c i (S.2.2.1 26 (p + 1) - S.2.2.1 26 p) (S.2.2.1 26 p) (rz 48 200 0 S)
def kl_parts (ft gp : Nat → Int32) (c : Nat) : Nat → Nat → PS → Option (Nat × Nat) × PS
  | 0, _, S => (none, S)
  | k + 1, p, S => if (kl_part ft gp c p S).1 = none then kl_parts ft gp c k (p + 1) (kl_part ft gp c p S).2 else kl_part ft gp c p S
def kl_all (ft gp : Nat → Int32) (c : Nat) (S : PS) : Option (Nat × Nat) × PS := kl_parts ft gp c (S.2.2.1 23 (c + 1) - S.2.2.1 23 c) (S.2.2.1 23 c) (rz 49 200 0 S)
theorem kp_rz (a : Nat) (h : a = 48 ∨ a = 49) : ∀ k i P, kp P (rz a k i P)
  | 0, _, P => kp_rfl P
  | k + 1, i, P => kp_tr (kp_ars h) (kp_rz a h k (i + 1) _)
theorem rz_2 (a : Nat) : ∀ (k i : Nat) (P S : PS), P.2 = S.2 → (rz a k i P).2 = (rz a k i S).2
  | 0, _, _, _, h => h
  | k + 1, i, P, S, h => rz_2 a k (i + 1) _ _ (by show (P.2.1, va_up P.2.2.1 a (va_up (P.2.2.1 a) i 0), P.2.2.2) = (S.2.1, va_up S.2.2.1 a (va_up (S.2.2.1 a) i 0), S.2.2.2); rw [h])
theorem rz_1 (a : Nat) : ∀ (k i : Nat) (P : PS), (rz a k i P).1 = P.1
  | 0, _, _ => rfl
  | k + 1, i, P => rz_1 a k (i + 1) (ars P a i 0)
/-- rows of the text that the checks don't change -/
theorem lto_kp {l : Nat} {P X : PS} (h : kp P X) (t : lto l P) : lto l X := by
  have a8 := h.2.1 8 (by decide) (by decide)
  have a28 := h.2.1 28 (by decide) (by decide)
  have a32 := h.2.1 32 (by decide) (by decide)
  have o29 := h.2.2.1 29 (by decide) (by decide)
  have o33 := h.2.2.1 33 (by decide) (by decide)
  exact ⟨by rw [a8, a28, a32]; exact t.a, by rw [a8, a28, a32, o29]; exact t.r, by rw [a8, a32, o33]; exact t.e⟩
/-- a fault of link l is told at one of its tokens -/
def ktok (l n t : Nat) (S : PS) : Prop := 0 < n ∧ (t = S.2.2.1 28 l ∨ S.2.2.2.1 29 l = some t ∨ t = S.2.2.1 32 l ∨ S.2.2.2.1 33 l = some t)
theorem kr_tok {ft : Nat → Int32} {c l b n t : Nat} {ob : Bool} {S : PS} (h : (kr_ ft c l ob b S).1 = some (n, t)) : ktok l n t S := by
  have ra : ∀ m, some (m, S.2.2.1 32 l) = some (n, t) → 0 < m → ktok l n t S := fun m e hm => by cases e; exact ⟨hm, Or.inr (Or.inr (Or.inl rfl))⟩
  have rr : ∀ m z, some (m, z) = some (n, t) → 0 < m → S.2.2.2.1 33 l = some z → ktok l n t S := fun m z e hm hz => by cases e; exact ⟨hm, Or.inr (Or.inr (Or.inr hz))⟩
  unfold kr_ at h
  split at h
  · split at h
    · unfold kr_pin at h
      split at h
      · split at h
        · split at h
          · split at h
            · have h : (if _ then none else some (5, S.2.2.1 32 l)) = some (n, t) := h
              split at h
              · cases h
              · exact ra 5 h (by decide)
            · exact ra 3 h (by decide)
          · have h : (if _ then none else some (5, S.2.2.1 32 l)) = some (n, t) := h
            split at h
            · cases h
            · exact ra 5 h (by decide)
        · rename_i hf
          obtain ⟨z, hz⟩ := m_fits_some hf
          rw [hz] at h
          exact rr 5 z h (by decide) hz
      · exact ra 4 h (by decide)
    · split at h
      · cases h
      · unfold kr_in at h
        split at h
        · split at h
          · exact ra 3 h (by decide)
          · split at h
            · rename_i z hz; exact rr 5 z h (by decide) hz
            · cases h
        · split at h
          · exact ra 4 h (by decide)
          · split at h
            · rename_i z hz; exact rr 5 z h (by decide) hz
            · have h : (if _ then none else some (5, S.2.2.1 32 l)) = some (n, t) := h
              split at h
              · cases h
              · exact ra 5 h (by decide)
  · split at h
    · exact ra 4 h (by decide)
    · cases h
theorem kl_tok {ft gp : Nat → Int32} {c i l n t : Nat} {S : PS} (h : (kl_link ft gp c i l S).1 = some (n, t)) : ktok l n t S := by
  have la : ∀ m, some (m, S.2.2.1 28 l) = some (n, t) → 0 < m → ktok l n t S := fun m e hm => by cases e; exact ⟨hm, Or.inl rfl⟩
  unfold kl_link at h
  split at h
  · exact la 4 h (by decide)
  · split at h
    · rename_i hb
      obtain ⟨z, hz⟩ := q_lb_none hb
      rw [hz] at h
      cases h
      exact ⟨by decide, Or.inr (Or.inl hz)⟩
    · split at h
      · exact kr_tok h
      · split at h
        · exact kr_tok (S := cl_3 i _ l S) h
        · exact la 3 h (by decide)
/-- the place of a token -/
abbrev pl_ (P : PS) (t : Nat) : Nat := P.2.2.1 8 t
/-- nothing was noted below place e -/
def abe (e : Nat) (P : PS) : Prop := P.1 5 = 0 ∨ e ≤ P.1 6
/-- something was noted ahead of the links: it stays -/
theorem links_blw {ft gp : Nat → Int32} {c i : Nat} : ∀ (k l : Nat) (P : PS), (∀ j, l ≤ j → j < l + k → lto j P) → 0 < P.1 5 → (∀ j, l ≤ j → j < l + k → P.1 6 < P.2.2.1 8 (P.2.2.1 28 j)) → (cl_links ft gp c i k l P).1 = P.1
  | 0, _, _, _, _, _ => rfl
  | k + 1, l, P, ht, h5, h6 => by
    have e := cl_blw (ft := ft) (gp := gp) (c := c) (i := i) (ht l (Nat.le_refl _) (by omega)) h5 (h6 l (Nat.le_refl _) (by omega))
    have kk := kp_cl ft gp c i l P
    show (cl_links ft gp c i k (l + 1) (cl_link ft gp c i l P)).1 = _
    rw [links_blw k (l + 1) _ (fun j a b => lto_kp kk (ht j (by omega) (by omega))) (by rw [e]; exact h5) (fun j a b => by rw [e, kk.2.1 8 (by decide) (by decide), kk.2.1 28 (by decide) (by decide)]; exact h6 j (by omega) (by omega)), e]
theorem links_cmp {ft gp : Nat → Int32} {c i : Nat} {e : Nat} : ∀ (k l : Nat) (P S : PS), P.2 = S.2 → (∀ j, l ≤ j → j < l + k → lto j P ∧ pl_ P (P.2.2.1 32 j) < e ∧ (∀ z, P.2.2.2.1 33 j = some z → pl_ P z < e) ∧ (∀ j', j < j' → j' < l + k → pl_ P (P.2.2.1 32 j) < pl_ P (P.2.2.1 28 j') ∧ ∀ z, P.2.2.2.1 33 j = some z → pl_ P z < pl_ P (P.2.2.1 28 j'))) → abe e P → cmp P (cl_links ft gp c i k l P) (kl_links ft gp c i k l S)
  | 0, l, P, S, h2, _, _ => cmp_ok h2 rfl
  | k + 1, l, P, S, h2, hj, ha => by
    have h0 := hj l (Nat.le_refl _) (by omega)
    have c0 := cl_cmp (ft := ft) (gp := gp) (c := c) (i := i) h2 h0.1 (by
      rcases ha with q | q
      · exact Or.inl q
      · exact Or.inr ⟨Nat.lt_of_lt_of_le h0.2.1 q, fun z hz => Nat.lt_of_lt_of_le (h0.2.2.1 z hz) q⟩)
    have kk := kp_cl ft gp c i l P
    have kj : ∀ j, l + 1 ≤ j → j < l + 1 + k → lto j (cl_link ft gp c i l P) ∧ pl_ (cl_link ft gp c i l P) ((cl_link ft gp c i l P).2.2.1 32 j) < e ∧ (∀ z, (cl_link ft gp c i l P).2.2.2.1 33 j = some z → pl_ (cl_link ft gp c i l P) z < e) ∧ (∀ j', j < j' → j' < l + 1 + k → pl_ (cl_link ft gp c i l P) ((cl_link ft gp c i l P).2.2.1 32 j) < pl_ (cl_link ft gp c i l P) ((cl_link ft gp c i l P).2.2.1 28 j') ∧ ∀ z, (cl_link ft gp c i l P).2.2.2.1 33 j = some z → pl_ (cl_link ft gp c i l P) z < pl_ (cl_link ft gp c i l P) ((cl_link ft gp c i l P).2.2.1 28 j')) := by
      intro j j1 j2
      obtain ⟨q1, q2, q3, q4⟩ := hj j (by omega) (by omega)
      unfold pl_
      rw [kk.2.1 8 (by decide) (by decide), kk.2.1 32 (by decide) (by decide), kk.2.1 28 (by decide) (by decide), kk.2.2.1 33 (by decide) (by decide)]
      exact ⟨lto_kp kk q1, q2, q3, fun j' a b => q4 j' a (by omega)⟩
    show cmp P (cl_links ft gp c i k (l + 1) (cl_link ft gp c i l P)) (if (kl_link ft gp c i l S).1 = none then kl_links ft gp c i k (l + 1) (kl_link ft gp c i l S).2 else kl_link ft gp c i l S)
    by_cases hn : (kl_link ft gp c i l S).1 = none
    · rw [if_pos hn]
      obtain ⟨g1, g2⟩ := c0.1 hn
      have r := links_cmp (ft := ft) (gp := gp) (c := c) (i := i) (e := e) k (l + 1) (cl_link ft gp c i l P) (kl_link ft gp c i l S).2 g1 kj (by unfold abe; rw [g2]; exact ha)
      refine ⟨fun q => ⟨(r.1 q).1, (r.1 q).2.trans g2⟩, fun n t q => ?_⟩
      have := r.2 n t q
      rw [kk.2.1 8 (by decide) (by decide)] at this
      exact this
    · rw [if_neg hn]
      obtain ⟨⟨n, t⟩, hnt⟩ : ∃ x, (kl_link ft gp c i l S).1 = some x := Option.ne_none_iff_exists'.mp hn
      obtain ⟨g1, g2⟩ := c0.2 n t hnt
      refine ⟨fun q => absurd q hn, fun n' t' q => ?_⟩
      rw [hnt] at q; cases q
      have tk := kl_tok hnt
      have stay := links_blw (ft := ft) (gp := gp) (c := c) (i := i) k (l + 1) (cl_link ft gp c i l P) (fun j j1 j2 => (kj j j1 j2).1) (by rw [g1]; exact tk.1) (fun j j1 j2 => by
        have q4 := h0.2.2.2 j (by omega) (by omega)
        rw [g2, kk.2.1 8 (by decide) (by decide), kk.2.1 28 (by decide) (by decide)]
        unfold pl_ at q4
        unfold ktok at tk
        rw [← h2] at tk
        rcases tk.2 with q | q | q | q
        · rw [q]; exact Nat.lt_trans h0.1.a q4.1
        · exact Nat.lt_trans (h0.1.r _ q).2 q4.1
        · rw [q]; exact q4.1
        · exact q4.2 _ q)
      rw [stay]; exact ⟨g1, g2⟩
/-! The parts of a chip -/
def pfa (e n : Nat) (P : PS) (p : Nat) : Prop := pl_ P (P.2.2.1 25 p) < e ∧ (∀ j, P.2.2.1 26 p ≤ j → j < P.2.2.1 26 (p + 1) → lto j P ∧ pl_ P (P.2.2.1 32 j) < e ∧ (∀ z, P.2.2.2.1 33 j = some z → pl_ P z < e) ∧ pl_ P (P.2.2.1 25 p) < pl_ P (P.2.2.1 28 j) ∧ (∀ j', j < j' → j' < P.2.2.1 26 (p + 1) → pl_ P (P.2.2.1 32 j) < pl_ P (P.2.2.1 28 j') ∧ ∀ z, P.2.2.2.1 33 j = some z → pl_ P z < pl_ P (P.2.2.1 28 j'))) ∧
  (∀ p', p < p' → p' < n → pl_ P (P.2.2.1 25 p) < pl_ P (P.2.2.1 25 p') ∧ ∀ j, P.2.2.1 26 p ≤ j → j < P.2.2.1 26 (p + 1) → pl_ P (P.2.2.1 32 j) < pl_ P (P.2.2.1 25 p') ∧ ∀ z, P.2.2.2.1 33 j = some z → pl_ P z < pl_ P (P.2.2.1 25 p'))
theorem pfa_kp {e n p : Nat} {P X : PS} (h : kp P X) (g : pfa e n P p) : pfa e n X p := by
  have a8 := h.2.1 8 (by decide) (by decide)
  have a25 := h.2.1 25 (by decide) (by decide)
  have a26 := h.2.1 26 (by decide) (by decide)
  have a28 := h.2.1 28 (by decide) (by decide)
  have a32 := h.2.1 32 (by decide) (by decide)
  have o33 := h.2.2.1 33 (by decide) (by decide)
  unfold pfa pl_ at g ⊢
  rw [a8, a25, a26, a28, a32, o33]
  refine ⟨g.1, fun j j1 j2 => ?_, g.2.2⟩
  have := g.2.1 j j1 j2
  exact ⟨lto_kp h this.1, this.2⟩
theorem kp_links (ft gp : Nat → Int32) (c i : Nat) : ∀ k l P, kp P (cl_links ft gp c i k l P)
  | 0, _, P => kp_rfl P
  | k + 1, l, P => kp_tr (kp_cl ft gp c i l P) (kp_links ft gp c i k (l + 1) _)
theorem kp_part (ft gp : Nat → Int32) (c p : Nat) (P : PS) : kp P (cl_part ft gp c p P) := by
  unfold cl_part
  split
  · exact kp_nt _ _ _
  · exact kp_tr (kp_rz 48 (Or.inl rfl) 200 0 P) (kp_links _ _ _ _ _ _ _)
theorem kp_parts (ft gp : Nat → Int32) (c : Nat) : ∀ k p P, kp P (cl_parts ft gp c k p P)
  | 0, _, P => kp_rfl P
  | k + 1, p, P => kp_tr (kp_part ft gp c p P) (kp_parts ft gp c k (p + 1) _)
/-- the desk leaves the same rows as they were -/
theorem ks_r {ft : Nat → Int32} {c l b : Nat} {ob : Bool} {S : PS} : kp S (kr_ ft c l ob b S).2 := by
  unfold kr_
  split
  · split
    · unfold kr_pin
      split
      · split
        · split
          · split
            · exact kp_ars (Or.inr rfl)
            · exact kp_rfl S
          · exact kp_rfl S
        · exact kp_rfl S
      · exact kp_rfl S
    · split
      · exact kp_rfl S
      · unfold kr_in
        split
        · split
          · exact kp_rfl S
          · split
            · exact kp_rfl S
            · exact kp_abs
        · split
          · exact kp_rfl S
          · split
            · exact kp_rfl S
            · exact kp_rfl S
  · split
    · exact kp_rfl S
    · exact kp_rfl S
theorem ks_l {ft gp : Nat → Int32} {c i l : Nat} {S : PS} : kp S (kl_link ft gp c i l S).2 := by
  unfold kl_link
  split
  · exact kp_rfl S
  · split
    · exact kp_rfl S
    · split
      · exact ks_r
      · split
        · exact kp_tr (kp_ars (Or.inl rfl)) ks_r
        · exact kp_rfl S
theorem ktok_kp {l n t : Nat} {P X : PS} (h : kp P X) (g : ktok l n t X) : ktok l n t P := by
  unfold ktok at g ⊢
  rw [h.2.1 28 (by decide) (by decide), h.2.1 32 (by decide) (by decide), h.2.2.1 29 (by decide) (by decide), h.2.2.1 33 (by decide) (by decide)] at g
  exact g
theorem kls_tok {ft gp : Nat → Int32} {c i n t : Nat} : ∀ (k l : Nat) (S : PS), (kl_links ft gp c i k l S).1 = some (n, t) → ∃ j, l ≤ j ∧ j < l + k ∧ ktok j n t S
  | 0, l, S, h => by cases h
  | k + 1, l, S, h => by
    have h : (if (kl_link ft gp c i l S).1 = none then kl_links ft gp c i k (l + 1) (kl_link ft gp c i l S).2 else kl_link ft gp c i l S).1 = some (n, t) := h
    split at h
    · obtain ⟨j, a, b, g⟩ := kls_tok k (l + 1) _ h
      exact ⟨j, by omega, by omega, ktok_kp ks_l g⟩
    · exact ⟨l, Nat.le_refl _, by omega, kl_tok h⟩
/-- something was noted ahead of the parts: it stays -/
theorem part_blw {ft gp : Nat → Int32} {c p : Nat} {P : PS} (hl : ∀ j, P.2.2.1 26 p ≤ j → j < P.2.2.1 26 (p + 1) → lto j P ∧ P.1 6 < pl_ P (P.2.2.1 28 j)) (h5 : 0 < P.1 5) (hq : P.1 6 < pl_ P (P.2.2.1 25 p)) : (cl_part ft gp c p P).1 = P.1 := by
  unfold cl_part
  split
  · rw [nt_old h5 (Or.inl hq)]
  · rename_i i _
    have kk := kp_rz 48 (Or.inl rfl) 200 0 P
    rw [links_blw _ _ _ (fun j a b => lto_kp kk (hl j a (by omega)).1) (by rw [rz_1]; exact h5) (fun j a b => by
      rw [rz_1, kk.2.1 8 (by decide) (by decide), kk.2.1 28 (by decide) (by decide)]; exact (hl j a (by omega)).2), rz_1]
theorem parts_blw {ft gp : Nat → Int32} {c e n : Nat} : ∀ (k p : Nat) (P : PS), p + k = n → (∀ p', p ≤ p' → p' < n → pfa e n P p') → 0 < P.1 5 → (∀ p', p ≤ p' → p' < n → P.1 6 < pl_ P (P.2.2.1 25 p')) → (cl_parts ft gp c k p P).1 = P.1
  | 0, _, _, _, _, _, _ => rfl
  | k + 1, p, P, hn, hf, h5, h6 => by
    have f := hf p (Nat.le_refl _) (by omega)
    have e1 := part_blw (ft := ft) (gp := gp) (c := c) (fun j a b => ⟨(f.2.1 j a b).1, Nat.lt_trans (h6 p (Nat.le_refl _) (by omega)) (f.2.1 j a b).2.2.2.1⟩) h5 (h6 p (Nat.le_refl _) (by omega))
    have kk := kp_part ft gp c p P
    show (cl_parts ft gp c k (p + 1) (cl_part ft gp c p P)).1 = _
    rw [parts_blw (e := e) k (p + 1) _ (by omega) (fun p' a b => pfa_kp kk (hf p' (by omega) b)) (by rw [e1]; exact h5) (fun p' a b => by
      unfold pl_; rw [e1, kk.2.1 8 (by decide) (by decide), kk.2.1 25 (by decide) (by decide)]; exact h6 p' (by omega) b), e1]
theorem part_cmp {ft gp : Nat → Int32} {c e n p : Nat} {P S : PS} (e2 : P.2 = S.2) (f : pfa e n P p) (ha : abe e P) : cmp P (cl_part ft gp c p P) (kl_part ft gp c p S) := by
  unfold cl_part kl_part
  rw [show S.2.2.2.1 44 p = P.2.2.2.1 44 p by rw [e2], show S.2.2.1 25 p = P.2.2.1 25 p by rw [e2], show S.2.2.1 26 = P.2.2.1 26 by rw [e2]]
  cases P.2.2.2.1 44 p with
  | none =>
    refine cmp_no (nt_new ?_)
    rcases ha with q | q
    · exact Or.inl q
    · exact Or.inr (Nat.lt_of_lt_of_le f.1 q)
  | some i =>
    have kk := kp_rz 48 (Or.inl rfl) 200 0 P
    have f' := pfa_kp kk f
    have r := links_cmp (ft := ft) (gp := gp) (c := c) (i := i) (e := e) (P.2.2.1 26 (p + 1) - P.2.2.1 26 p) (P.2.2.1 26 p) (rz 48 200 0 P) (rz 48 200 0 S) (rz_2 48 200 0 P S e2) (fun j j1 j2 => by
      have := f'.2.1 j (by rw [kk.2.1 26 (by decide) (by decide)]; exact j1) (by rw [kk.2.1 26 (by decide) (by decide)]; omega)
      refine ⟨this.1, this.2.1, this.2.2.1, fun j' a b => ?_⟩
      exact this.2.2.2.2 j' a (by rw [kk.2.1 26 (by decide) (by decide)]; omega)) (by unfold abe; rw [rz_1]; exact ha)
    refine ⟨fun q => ⟨(r.1 q).1, (r.1 q).2.trans (rz_1 48 200 0 P)⟩, fun n' t' q => ?_⟩
    have := r.2 n' t' q
    rw [kk.2.1 8 (by decide) (by decide)] at this
    exact this
theorem part_tok {ft gp : Nat → Int32} {c p n t : Nat} {S : PS} (h : (kl_part ft gp c p S).1 = some (n, t)) : 0 < n ∧ (t = S.2.2.1 25 p ∨ ∃ j, S.2.2.1 26 p ≤ j ∧ j < S.2.2.1 26 (p + 1) ∧ ktok j n t S) := by
  unfold kl_part at h
  split at h
  · cases h; exact ⟨by decide, Or.inl rfl⟩
  · obtain ⟨j, a, b, g⟩ := kls_tok _ _ _ h
    have g' := ktok_kp (kp_rz 48 (Or.inl rfl) 200 0 S) g
    exact ⟨g'.1, Or.inr ⟨j, a, by omega, g'⟩⟩
theorem kp_kpart {ft gp : Nat → Int32} {c i : Nat} : ∀ (k l : Nat) (S : PS), kp S (kl_links ft gp c i k l S).2
  | 0, _, S => kp_rfl S
  | k + 1, l, S => by
    show kp S (if (kl_link ft gp c i l S).1 = none then kl_links ft gp c i k (l + 1) (kl_link ft gp c i l S).2 else kl_link ft gp c i l S).2
    split
    · exact kp_tr ks_l (kp_kpart k (l + 1) _)
    · exact ks_l
/-- where a fault of part p stands against the tokens of the parts behind it -/
theorem part_tok_lt {e n p m t p' : Nat} {P : PS} (f : pfa e n P p) (h1 : p < p') (h2 : p' < n) (h : t = P.2.2.1 25 p ∨ ∃ j, P.2.2.1 26 p ≤ j ∧ j < P.2.2.1 26 (p + 1) ∧ ktok j m t P) : pl_ P t < pl_ P (P.2.2.1 25 p') := by
  obtain ⟨g1, g2⟩ := f.2.2 p' h1 h2
  rcases h with q | ⟨j, a, b, q⟩
  · rw [q]; exact g1
  · obtain ⟨k1, k2⟩ := g2 j a b
    have lt := (f.2.1 j a b).1
    rcases q.2 with z | z | z | z
    · rw [z]; exact Nat.lt_trans lt.a k1
    · exact Nat.lt_trans (lt.r _ z).2 k1
    · rw [z]; exact k1
    · exact k2 _ z
theorem part_tok_e {e n p m t : Nat} {P : PS} (f : pfa e n P p) (h : t = P.2.2.1 25 p ∨ ∃ j, P.2.2.1 26 p ≤ j ∧ j < P.2.2.1 26 (p + 1) ∧ ktok j m t P) : pl_ P t < e := by
  rcases h with q | ⟨j, a, b, q⟩
  · rw [q]; exact f.1
  · obtain ⟨lt, k1, k2, -⟩ := f.2.1 j a b
    rcases q.2 with z | z | z | z
    · rw [z]; exact Nat.lt_trans lt.a k1
    · exact Nat.lt_trans (lt.r _ z).2 k1
    · rw [z]; exact k1
    · exact k2 _ z
theorem parts_cmp {ft gp : Nat → Int32} {c e n : Nat} : ∀ (k p : Nat) (P S : PS), p + k = n → P.2 = S.2 → (∀ p', p ≤ p' → p' < n → pfa e n P p') → abe e P → cmp P (cl_parts ft gp c k p P) (kl_parts ft gp c k p S) ∧ ∀ m t, (kl_parts ft gp c k p S).1 = some (m, t) → 0 < m ∧ pl_ P t < e
  | 0, p, P, S, _, e2, _, _ => ⟨cmp_ok e2 rfl, fun m t h => by cases h⟩
  | k + 1, p, P, S, hn, e2, hf, ha => by
    have f := hf p (Nat.le_refl _) (by omega)
    have c0 := part_cmp (ft := ft) (gp := gp) (c := c) e2 f ha
    have kk := kp_part ft gp c p P
    show cmp P (cl_parts ft gp c k (p + 1) (cl_part ft gp c p P)) (if (kl_part ft gp c p S).1 = none then kl_parts ft gp c k (p + 1) (kl_part ft gp c p S).2 else kl_part ft gp c p S) ∧ ∀ m t, (if (kl_part ft gp c p S).1 = none then kl_parts ft gp c k (p + 1) (kl_part ft gp c p S).2 else kl_part ft gp c p S).1 = some (m, t) → 0 < m ∧ pl_ P t < e
    by_cases hz : (kl_part ft gp c p S).1 = none
    · rw [if_pos hz]
      obtain ⟨g1, g2⟩ := c0.1 hz
      obtain ⟨r1, r2⟩ := parts_cmp (ft := ft) (gp := gp) (c := c) (e := e) k (p + 1) (cl_part ft gp c p P) (kl_part ft gp c p S).2 (by omega) g1 (fun p' a b => pfa_kp kk (hf p' (by omega) b)) (by unfold abe; rw [g2]; exact ha)
      refine ⟨⟨fun q => ⟨(r1.1 q).1, (r1.1 q).2.trans g2⟩, fun m t q => ?_⟩, fun m t q => ?_⟩
      · have := r1.2 m t q; rw [kk.2.1 8 (by decide) (by decide)] at this; exact this
      · have := r2 m t q; unfold pl_ at this ⊢; rw [kk.2.1 8 (by decide) (by decide)] at this; exact this
    · rw [if_neg hz]
      obtain ⟨⟨m, t⟩, hmt⟩ : ∃ x, (kl_part ft gp c p S).1 = some x := Option.ne_none_iff_exists'.mp hz
      obtain ⟨g1, g2⟩ := c0.2 m t hmt
      have tk := part_tok hmt
      have tk2 : t = P.2.2.1 25 p ∨ ∃ j, P.2.2.1 26 p ≤ j ∧ j < P.2.2.1 26 (p + 1) ∧ ktok j m t P := by
        have := tk.2
        unfold ktok at this ⊢
        rw [← e2] at this; exact this
      have stay := parts_blw (ft := ft) (gp := gp) (c := c) (e := e) k (p + 1) (cl_part ft gp c p P) (by omega) (fun p' a b => pfa_kp kk (hf p' (by omega) b)) (by rw [g1]; exact tk.1) (fun p' a b => by
        unfold pl_; rw [g2, kk.2.1 8 (by decide) (by decide), kk.2.1 25 (by decide) (by decide)]
        exact part_tok_lt f (by omega) b tk2)
      refine ⟨⟨fun q => absurd q hz, fun m' t' q => ?_⟩, fun m' t' q => ?_⟩
      · rw [hmt] at q; cases q; rw [stay]; exact ⟨g1, g2⟩
      · rw [hmt] at q; cases q; exact ⟨tk.1, part_tok_e f tk2⟩
/-! Chips: names and pins ahead of all links on the one side, chip by chip on the other -/
def k1_pin (ft : Nat → Int32) (nv : Nat → Nat) (c p : Nat) (S : PS) : Option (Nat × Nat) :=
  if q_any (fun k => m_like ft (S.2.2.1 8) (S.2.2.1 9) (S.2.2.1 20 k) (S.2.2.1 20 p)) (p - S.2.2.1 17 c) (S.2.2.1 17 c) false = true then some (3, S.2.2.1 20 p) else match S.2.2.2.1 22 p with
    | none => none
    | some z => if nv z < 1 ∨ 16 < nv z then some (5, z) else none
def k1_pins (ft : Nat → Int32) (nv : Nat → Nat) (c : Nat) (S : PS) : Nat → Nat → Option (Nat × Nat)
  | 0, _ => none
  | k + 1, p => if k1_pin ft nv c p S = none then k1_pins ft nv c S k (p + 1) else k1_pin ft nv c p S
def k1 (ft gw : Nat → Int32) (nv : Nat → Nat) (c : Nat) (S : PS) : Option (Nat × Nat) :=
  if q_any (fun k => m_like ft (S.2.2.1 8) (S.2.2.1 9) (S.2.2.1 16 k) (S.2.2.1 16 c)) c 0 (!decide (q_word gw 9 ft S (S.2.2.1 16 c) = none)) = true then some (3, S.2.2.1 16 c) else k1_pins ft nv c S (S.2.2.1 17 (c + 1) - S.2.2.1 17 c) (S.2.2.1 17 c)
/-- tokens of names and pins of chip c: in their order; all of them at places from a on, below e -/
def pto (a e : Nat) (P : PS) (c : Nat) : Prop := a ≤ pl_ P (P.2.2.1 16 c) ∧ pl_ P (P.2.2.1 16 c) < e ∧ ∀ p, P.2.2.1 17 c ≤ p → p < P.2.2.1 17 (c + 1) → pl_ P (P.2.2.1 16 c) < pl_ P (P.2.2.1 20 p) ∧ pl_ P (P.2.2.1 20 p) < e ∧ (∀ z, P.2.2.2.1 22 p = some z → pl_ P (P.2.2.1 20 p) < pl_ P z ∧ pl_ P z < e) ∧ ∀ p', p < p' → p' < P.2.2.1 17 (c + 1) → pl_ P (P.2.2.1 20 p) < pl_ P (P.2.2.1 20 p') ∧ ∀ z, P.2.2.2.1 22 p = some z → pl_ P z < pl_ P (P.2.2.1 20 p')
theorem cpa_2 {ft : Nat → Int32} {c p : Nat} {P : PS} : (cp_a ft c p P).2 = P.2 := by unfold cp_a; split; exact nt_2 _ _ _; rfl
theorem cpb_2 {nv : Nat → Nat} {p : Nat} {P : PS} : (cp_b nv p P).2 = P.2 := by
  unfold cp_b; split
  · rfl
  · split
    · exact nt_2 _ _ _
    · rfl
theorem cppins_2 {ft : Nat → Int32} {nv : Nat → Nat} {c : Nat} : ∀ k p P, (cp_pins ft nv c k p P).2 = P.2
  | 0, _, _ => rfl
  | k + 1, p, P => by
    show (cp_pins ft nv c k (p + 1) (cp_b nv p (cp_a ft c p P))).2 = _
    rw [cppins_2 k, cpb_2, cpa_2]
theorem cpch_2 {ft gw : Nat → Int32} {nv : Nat → Nat} {c : Nat} {P : PS} : (cp_ch ft gw nv c P).2 = P.2 := by
  unfold cp_ch; rw [cppins_2]; unfold cp_t; split; exact nt_2 _ _ _; rfl
theorem cpall_2 {ft gw : Nat → Int32} {nv : Nat → Nat} : ∀ k c P, (cp_all ft gw nv k c P).2 = P.2
  | 0, _, _ => rfl
  | k + 1, c, P => by
    show (cp_all ft gw nv k (c + 1) (cp_ch ft gw nv c P)).2 = _
    rw [cpall_2 k, cpch_2]
/-- the fields but found and its place stay -/
theorem cpall_k {ft gw : Nat → Int32} {nv : Nat → Nat} {j : Nat} (h5 : j ≠ 5) (h6 : j ≠ 6) : ∀ k c P, (cp_all ft gw nv k c P).1 j = P.1 j := by
  have hp : ∀ c k p P, (cp_pins ft nv c k p P).1 j = P.1 j := by
    intro c k
    induction k with
    | zero => intro p P; rfl
    | succ k ih =>
      intro p P
      show (cp_pins ft nv c k (p + 1) (cp_b nv p (cp_a ft c p P))).1 j = _
      rw [ih]
      have a : (cp_a ft c p P).1 j = P.1 j := by unfold cp_a; split; exact nt_k _ _ _ h5 h6; rfl
      rw [← a]
      unfold cp_b; split
      · rfl
      · split
        · exact nt_k _ _ _ h5 h6
        · rfl
  intro k
  induction k with
  | zero => intro c P; rfl
  | succ k ih =>
    intro c P
    show (cp_all ft gw nv k (c + 1) (cp_ch ft gw nv c P)).1 j = _
    rw [ih]
    unfold cp_ch; rw [hp]; unfold cp_t; split
    · exact nt_k _ _ _ h5 h6
    · rfl
theorem pins_blw {ft : Nat → Int32} {nv : Nat → Nat} {c : Nat} : ∀ (k p : Nat) (P : PS), 0 < P.1 5 → (∀ p', p ≤ p' → p' < p + k → P.1 6 < pl_ P (P.2.2.1 20 p') ∧ ∀ z, P.2.2.2.1 22 p' = some z → P.1 6 < pl_ P z) → cp_pins ft nv c k p P = P
  | 0, _, _, _, _ => rfl
  | k + 1, p, P, h5, h => by
    have h0 := h p (Nat.le_refl _) (by omega)
    have e1 : cp_a ft c p P = P := by unfold cp_a; split; exact nt_old h5 (Or.inl h0.1); rfl
    have e2 : cp_b nv p P = P := by
      unfold cp_b; split
      · rfl
      · rename_i z hz
        split
        · exact nt_old h5 (Or.inl (h0.2 z hz))
        · rfl
    show cp_pins ft nv c k (p + 1) (cp_b nv p (cp_a ft c p P)) = P
    rw [e1, e2]
    exact pins_blw k (p + 1) P h5 (fun p' a b => h p' (by omega) (by omega))
/-- the pins of a chip: the first fault is what is found -/
theorem pins_cmp {ft : Nat → Int32} {nv : Nat → Nat} {c a e : Nat} {P0 : PS} (ht : pto a e P0 c) : ∀ (k p : Nat) (P S : PS), P.2 = P0.2 → P.2 = S.2 → P.1 5 = 0 → P0.2.2.1 17 c ≤ p → p + k ≤ P0.2.2.1 17 (c + 1) →
    (k1_pins ft nv c S k p = none → cp_pins ft nv c k p P = P) ∧ ∀ n t, k1_pins ft nv c S k p = some (n, t) → 0 < n ∧ (cp_pins ft nv c k p P).1 5 = n ∧ (cp_pins ft nv c k p P).1 6 = pl_ P0 t ∧ pl_ P0 t < e ∧ a ≤ pl_ P0 t
  | 0, _, _, _, _, _, _, _, _ => ⟨fun _ => rfl, fun n t h => by cases h⟩
  | k + 1, p, P, S, eP, eS, h5, hp, hk => by
    have tp := ht.2.2 p hp (by omega)
    have ea : ∀ z, pl_ P z = pl_ P0 z := fun z => by unfold pl_; rw [eP]
    have rest : ∀ X : PS, X.2 = P.2 → 0 < X.1 5 → (X.1 6 = pl_ P0 (P0.2.2.1 20 p) ∨ ∃ z, P0.2.2.2.1 22 p = some z ∧ X.1 6 = pl_ P0 z) → cp_pins ft nv c k (p + 1) X = X := by
      intro X eX h h6
      refine pins_blw k (p + 1) X h (fun p' a b => ?_)
      have tq := tp.2.2.2 p' (by omega) (by omega)
      have tz := ht.2.2 p' (by omega) (by omega)
      have eX0 : X.2 = P0.2 := eX.trans eP
      have lt : X.1 6 < pl_ P0 (P0.2.2.1 20 p') := by
        rcases h6 with q | ⟨z, q1, q2⟩
        · rw [q]; exact tq.1
        · rw [q2]; exact tq.2 z q1
      unfold pl_
      rw [eX0]
      exact ⟨lt, fun z hz => Nat.lt_trans lt (tz.2.2.1 z hz).1⟩
    have eq : k1_pins ft nv c S (k + 1) p = if k1_pin ft nv c p S = none then k1_pins ft nv c S k (p + 1) else k1_pin ft nv c p S := rfl
    have eq2 : cp_pins ft nv c (k + 1) p P = cp_pins ft nv c k (p + 1) (cp_b nv p (cp_a ft c p P)) := rfl
    rw [eq, eq2]
    unfold k1_pin
    rw [← eS]
    by_cases hq : q_any (fun k => m_like ft (P.2.2.1 8) (P.2.2.1 9) (P.2.2.1 20 k) (P.2.2.1 20 p)) (p - P.2.2.1 17 c) (P.2.2.1 17 c) false = true
    · have e1 : cp_a ft c p P = sp_note 3 (P.2.2.1 20 p) P := by unfold cp_a; rw [if_pos hq]
      have n1 := nt_new (n := 3) (t := P.2.2.1 20 p) (P := P) (Or.inl h5)
      have p6 : (sp_note 3 (P.2.2.1 20 p) P).1 6 = pl_ P0 (P0.2.2.1 20 p) := by rw [n1.2, eP]
      have e2 : cp_b nv p (sp_note 3 (P.2.2.1 20 p) P) = sp_note 3 (P.2.2.1 20 p) P := by
        unfold cp_b; rw [nt_2]; split
        · rfl
        · rename_i z hz
          split
          · refine nt_old (by rw [n1.1]; decide) (Or.inl ?_)
            rw [p6, nt_2, eP]
            rw [eP] at hz
            exact (tp.2.2.1 z hz).1
          · rfl
      rw [if_pos hq, if_neg (by simp), e1, e2, rest _ (nt_2 _ _ _) (by rw [n1.1]; decide) (Or.inl p6)]
      refine ⟨fun h => (by cases h), fun n t h => ?_⟩
      cases h
      have h0 := ht.1
      have : pl_ P0 (P.2.2.1 20 p) = pl_ P0 (P0.2.2.1 20 p) := by rw [eP]
      rw [this]
      exact ⟨by decide, n1.1, p6, tp.2.1, by omega⟩
    · have e1 : cp_a ft c p P = P := by unfold cp_a; rw [if_neg hq]
      rw [if_neg hq, e1]
      cases hz : P.2.2.2.1 22 p with
      | none =>
        have e2 : cp_b nv p P = P := by unfold cp_b; rw [hz]
        rw [e2, if_pos rfl]
        exact pins_cmp ht k (p + 1) P S eP eS h5 (by omega) (by omega)
      | some z =>
        show ((if (if nv z < 1 ∨ 16 < nv z then some (5, z) else none) = none then k1_pins ft nv c S k (p + 1) else (if nv z < 1 ∨ 16 < nv z then some (5, z) else none)) = none → _) ∧ ∀ n t, (if (if nv z < 1 ∨ 16 < nv z then some (5, z) else none) = none then k1_pins ft nv c S k (p + 1) else (if nv z < 1 ∨ 16 < nv z then some (5, z) else none)) = some (n, t) → _
        by_cases hv : nv z < 1 ∨ 16 < nv z
        · have e2 : cp_b nv p P = sp_note 5 z P := by unfold cp_b; rw [hz]; show (if nv z < 1 ∨ 16 < nv z then _ else _) = _; rw [if_pos hv]
          have n1 := nt_new (n := 5) (t := z) (P := P) (Or.inl h5)
          have hz0 : P0.2.2.2.1 22 p = some z := by rw [← eP]; exact hz
          rw [if_pos hv, if_neg (by simp), e2, rest _ (nt_2 _ _ _) (by rw [n1.1]; decide) (Or.inr ⟨z, hz0, by rw [n1.2, eP]⟩)]
          refine ⟨fun h => (by cases h), fun n t h => ?_⟩
          cases h
          have tz := tp.2.2.1 z hz0
          have h0 := ht.1
          exact ⟨by decide, n1.1, by rw [n1.2, eP], tz.2, by omega⟩
        · have e2 : cp_b nv p P = P := by unfold cp_b; rw [hz]; show (if nv z < 1 ∨ 16 < nv z then _ else _) = _; rw [if_neg hv]
          rw [if_neg hv, if_pos rfl, e2]
          exact pins_cmp ht k (p + 1) P S eP eS h5 (by omega) (by omega)
theorem ch_cmp {ft gw : Nat → Int32} {nv : Nat → Nat} {c a e : Nat} {P : PS} (ht : pto a e P c) (h5 : P.1 5 = 0) (hF : P.2.2.1 17 c ≤ P.2.2.1 17 (c + 1)) :
    (k1 ft gw nv c P = none → cp_ch ft gw nv c P = P) ∧ ∀ n t, k1 ft gw nv c P = some (n, t) → 0 < n ∧ (cp_ch ft gw nv c P).1 5 = n ∧ (cp_ch ft gw nv c P).1 6 = pl_ P t ∧ pl_ P t < e ∧ a ≤ pl_ P t := by
  unfold k1 cp_ch cp_t
  by_cases hq : q_any (fun k => m_like ft (P.2.2.1 8) (P.2.2.1 9) (P.2.2.1 16 k) (P.2.2.1 16 c)) c 0 (!decide (q_word gw 9 ft P (P.2.2.1 16 c) = none)) = true
  · rw [if_pos hq, if_pos hq]
    have n1 := nt_new (n := 3) (t := P.2.2.1 16 c) (P := P) (Or.inl h5)
    have st := pins_blw (ft := ft) (nv := nv) (c := c) (P.2.2.1 17 (c + 1) - P.2.2.1 17 c) (P.2.2.1 17 c) (sp_note 3 (P.2.2.1 16 c) P) (by rw [n1.1]; decide) (fun p' a b => by
      have tz := ht.2.2 p' a (by omega)
      unfold pl_
      rw [n1.2, nt_2]
      exact ⟨tz.1, fun z hz => Nat.lt_trans tz.1 (tz.2.2.1 z hz).1⟩)
    rw [st]
    refine ⟨fun h => (by cases h), fun n t h => ?_⟩
    cases h
    exact ⟨by decide, n1.1, n1.2, ht.2.1, ht.1⟩
  · rw [if_neg hq, if_neg hq]
    exact pins_cmp ht _ _ P P rfl rfl h5 (Nat.le_refl _) (by omega)
theorem ch_blw {ft gw : Nat → Int32} {nv : Nat → Nat} {c a e : Nat} {P : PS} (ht : pto a e P c) (h5 : 0 < P.1 5) (h6 : P.1 6 < a) : cp_ch ft gw nv c P = P := by
  unfold cp_ch cp_t
  have h0 := ht.1
  have e1 : sp_note 3 (P.2.2.1 16 c) P = P := nt_old h5 (Or.inl (by unfold pl_ at h0; omega))
  have st := pins_blw (ft := ft) (nv := nv) (c := c) (P.2.2.1 17 (c + 1) - P.2.2.1 17 c) (P.2.2.1 17 c) P h5 (fun p' a' b => by
    have tz := ht.2.2 p' a' (by omega)
    have lt : P.1 6 < pl_ P (P.2.2.1 20 p') := by omega
    exact ⟨lt, fun z hz => Nat.lt_trans lt (tz.2.2.1 z hz).1⟩)
  split
  · rw [e1, st]
  · exact st
/-! All chips -/
/-- the text of the chips: each one's names and pins from bd on, its parts from md on, the next one behind it -/
def toc (nc : Nat) (bd md : Nat → Nat) (P : PS) : Prop := ∀ c, c < nc → pto (bd c) (md c) P c ∧ (∀ p, P.2.2.1 23 c ≤ p → p < P.2.2.1 23 (c + 1) → pfa (bd (c + 1)) (P.2.2.1 23 (c + 1)) P p ∧ md c ≤ pl_ P (P.2.2.1 25 p)) ∧ (bd c ≤ md c ∧ md c ≤ bd (c + 1)) ∧ P.2.2.1 17 c ≤ P.2.2.1 17 (c + 1) ∧ P.2.2.1 23 c ≤ P.2.2.1 23 (c + 1)
theorem pto_kp {a e c : Nat} {P X : PS} (h : kp P X) (g : pto a e P c) : pto a e X c := by
  unfold pto pl_ at g ⊢
  rw [h.2.1 8 (by decide) (by decide), h.2.1 16 (by decide) (by decide), h.2.1 17 (by decide) (by decide), h.2.1 20 (by decide) (by decide), h.2.2.1 22 (by decide) (by decide)]
  exact g
theorem toc_kp {nc : Nat} {bd md : Nat → Nat} {P X : PS} (h : kp P X) (g : toc nc bd md P) : toc nc bd md X := by
  intro c hc
  obtain ⟨g1, g2, g3, g4, g5⟩ := g c hc
  refine ⟨pto_kp h g1, fun p a b => ?_, g3, by rw [h.2.1 17 (by decide) (by decide)]; exact g4, by rw [h.2.1 23 (by decide) (by decide)]; exact g5⟩
  rw [h.2.1 23 (by decide) (by decide)] at a b ⊢
  have := g2 p a b
  refine ⟨pfa_kp h this.1, ?_⟩
  unfold pl_
  rw [h.2.1 8 (by decide) (by decide), h.2.1 25 (by decide) (by decide)]
  exact this.2
theorem toc_2 {nc : Nat} {bd md : Nat → Nat} {P X : PS} (h : X.2 = P.2) (g : toc nc bd md P) : toc nc bd md X := by
  have e : ∀ a e' c, pto a e' X c ↔ pto a e' P c := fun a e' c => by unfold pto pl_; rw [h]
  have l : ∀ j, lto j X ↔ lto j P := fun j => by unfold lto; rw [h]
  have f : ∀ a n p, pfa a n X p ↔ pfa a n P p := fun a n p => by
    have : ∀ (A B : PS), A.2 = B.2 → pfa a n A p → pfa a n B p := by
      intro A B q z
      unfold pfa pl_ lto at z ⊢
      rw [← q]; exact z
    exact ⟨this X P h, this P X h.symm⟩
  intro c hc
  obtain ⟨g1, g2, g3, g4, g5⟩ := g c hc
  refine ⟨(e _ _ _).mpr g1, fun p a b => ?_, g3, by rw [h]; exact g4, by rw [h]; exact g5⟩
  rw [h] at a b ⊢
  have := g2 p a b
  refine ⟨(f _ _ _).mpr this.1, ?_⟩
  unfold pl_
  rw [h]; exact this.2
theorem bd_mono {nc : Nat} {bd md : Nat → Nat} {P : PS} (g : toc nc bd md P) : ∀ d c, c + d ≤ nc → bd c ≤ bd (c + d)
  | 0, c, _ => Nat.le_refl _
  | d + 1, c, h => by
    have := bd_mono g d c (by omega)
    have := (g (c + d) (by omega)).2.2.1
    rw [show c + (d + 1) = c + d + 1 by omega]; omega
theorem k1_2 {ft gw : Nat → Int32} {nv : Nat → Nat} {c : Nat} {P X : PS} (h : kp P X) : k1 ft gw nv c X = k1 ft gw nv c P := by
  have hp : ∀ k p, k1_pins ft nv c X k p = k1_pins ft nv c P k p := by
    intro k
    induction k with
    | zero => intro p; rfl
    | succ k ih =>
      intro p
      have e1 : k1_pin ft nv c p X = k1_pin ft nv c p P := by
        unfold k1_pin
        rw [h.2.1 8 (by decide) (by decide), h.2.1 9 (by decide) (by decide), h.2.1 20 (by decide) (by decide), h.2.1 17 (by decide) (by decide), h.2.2.1 22 (by decide) (by decide)]
      show (if k1_pin ft nv c p X = none then k1_pins ft nv c X k (p + 1) else k1_pin ft nv c p X) = (if k1_pin ft nv c p P = none then k1_pins ft nv c P k (p + 1) else k1_pin ft nv c p P)
      rw [e1, ih]
  unfold k1 q_word
  rw [hp, h.2.1 8 (by decide) (by decide), h.2.1 9 (by decide) (by decide), h.2.1 16 (by decide) (by decide), h.2.1 17 (by decide) (by decide)]
/-- names and pins of all chips -/
theorem all_blw {ft gw : Nat → Int32} {nv : Nat → Nat} {nc : Nat} {bd md : Nat → Nat} : ∀ (k c : Nat) (P : PS), c + k = nc → toc nc bd md P → 0 < P.1 5 → P.1 6 < bd c → cp_all ft gw nv k c P = P
  | 0, _, _, _, _, _, _ => rfl
  | k + 1, c, P, hn, g, h5, h6 => by
    have e := ch_blw (ft := ft) (gw := gw) (nv := nv) (g c (by omega)).1 h5 h6
    show cp_all ft gw nv k (c + 1) (cp_ch ft gw nv c P) = P
    rw [e]
    exact all_blw k (c + 1) P (by omega) g h5 (by have := (g c (by omega)).2.2.1; omega)
theorem all_cmp {ft gw : Nat → Int32} {nv : Nat → Nat} {nc : Nat} {bd md : Nat → Nat} : ∀ (k c : Nat) (P : PS), c + k = nc → toc nc bd md P → P.1 5 = 0 →
    ((∀ c', c ≤ c' → c' < nc → k1 ft gw nv c' P = none) ∧ cp_all ft gw nv k c P = P) ∨ ∃ c1 n t, c ≤ c1 ∧ c1 < nc ∧ (∀ c', c ≤ c' → c' < c1 → k1 ft gw nv c' P = none) ∧ k1 ft gw nv c1 P = some (n, t) ∧ 0 < n ∧ (cp_all ft gw nv k c P).1 5 = n ∧ (cp_all ft gw nv k c P).1 6 = pl_ P t ∧ bd c1 ≤ pl_ P t ∧ pl_ P t < md c1
  | 0, c, P, hn, _, _ => Or.inl ⟨fun c' a b => by omega, rfl⟩
  | k + 1, c, P, hn, g, h5 => by
    have gc := g c (by omega)
    obtain ⟨r1, r2⟩ := ch_cmp (ft := ft) (gw := gw) (nv := nv) gc.1 h5 gc.2.2.2.1
    have eq : cp_all ft gw nv (k + 1) c P = cp_all ft gw nv k (c + 1) (cp_ch ft gw nv c P) := rfl
    rw [eq]
    cases hk : k1 ft gw nv c P with
    | none =>
      rw [r1 hk]
      rcases all_cmp (ft := ft) (gw := gw) (nv := nv) k (c + 1) P (by omega) g h5 with ⟨q1, q2⟩ | ⟨c1, n, t, q1, q2, q3, q4⟩
      · refine Or.inl ⟨fun c' a b => ?_, q2⟩
        by_cases z : c' = c
        · rw [z]; exact hk
        · exact q1 c' (by omega) b
      · refine Or.inr ⟨c1, n, t, by omega, q2, fun c' a b => ?_, q4⟩
        by_cases z : c' = c
        · rw [z]; exact hk
        · exact q3 c' (by omega) b
    | some x =>
      obtain ⟨n, t⟩ := x
      obtain ⟨s1, s2, s3, s4, s5⟩ := r2 n t hk
      have st := all_blw (ft := ft) (gw := gw) (nv := nv) k (c + 1) (cp_ch ft gw nv c P) (by omega) (toc_2 cpch_2 g) (by rw [s2]; exact s1) (by rw [s3]; have := gc.2.2.1; omega)
      rw [st]
      exact Or.inr ⟨c, n, t, Nat.le_refl _, by omega, fun c' a b => by omega, hk, s1, s2, s3, s5, s4⟩
/-! links: findInner keeps rows and found -/
theorem kp_fi0 : ∀ k i P, kp P (fi_0 k i P)
  | 0, _, P => kp_rfl P
  | k + 1, i, P => kp_tr (kp_tr (kp_aos (Or.inl rfl)) kp_abs) (kp_fi0 k (i + 1) _)
theorem kp_filink (ft gp : Nat → Int32) (c i l : Nat) (P : PS) : kp P (fi_link ft gp c i l P) := by
  unfold fi_link
  split
  · exact kp_rfl P
  · split
    · exact kp_rfl P
    · split
      · exact kp_aos (Or.inl rfl)
      · exact kp_rfl P
theorem kp_filinks (ft gp : Nat → Int32) (c i : Nat) : ∀ k l P, kp P (fi_links ft gp c i k l P)
  | 0, _, P => kp_rfl P
  | k + 1, l, P => kp_tr (kp_filink ft gp c i l P) (kp_filinks ft gp c i k (l + 1) _)
theorem kp_fipart (ft gw gp : Nat → Int32) (c p : Nat) (P : PS) : kp P (fi_part ft gw gp c p P) := by
  unfold fi_part
  split
  · exact kp_aos (Or.inr rfl)
  · exact kp_tr (kp_aos (Or.inr rfl)) (kp_filinks _ _ _ _ _ _ _)
theorem kp_fiparts (ft gw gp : Nat → Int32) (c : Nat) : ∀ k p P, kp P (fi_parts ft gw gp c k p P)
  | 0, _, P => kp_rfl P
  | k + 1, p, P => kp_tr (kp_fipart ft gw gp c p P) (kp_fiparts ft gw gp c k (p + 1) _)
theorem kp_fi (ft gw gp : Nat → Int32) (c : Nat) (P : PS) : kp P (fi_all ft gw gp c P) := kp_tr (kp_fi0 _ _ P) (kp_fiparts _ _ _ _ _ _ _)
theorem fi0_1 : ∀ k i P, (fi_0 k i P).1 = P.1
  | 0, _, _ => rfl
  | k + 1, i, P => fi0_1 k (i + 1) (abs_ (aos P 39 i (some 0)) 40 i false)
theorem filink_1 {ft gp : Nat → Int32} {c i l : Nat} {P : PS} : (fi_link ft gp c i l P).1 = P.1 := by
  unfold fi_link
  split
  · rfl
  · split
    · rfl
    · split <;> rfl
theorem filinks_1 {ft gp : Nat → Int32} {c i : Nat} : ∀ k l P, (fi_links ft gp c i k l P).1 = P.1
  | 0, _, _ => rfl
  | k + 1, l, P => by show (fi_links ft gp c i k (l + 1) (fi_link ft gp c i l P)).1 = _; rw [filinks_1 k, filink_1]
theorem fipart_1 {ft gw gp : Nat → Int32} {c p : Nat} {P : PS} : (fi_part ft gw gp c p P).1 = P.1 := by
  unfold fi_part
  split
  · rfl
  · rw [filinks_1]; rfl
theorem fiparts_1 {ft gw gp : Nat → Int32} {c : Nat} : ∀ k p P, (fi_parts ft gw gp c k p P).1 = P.1
  | 0, _, _ => rfl
  | k + 1, p, P => by show (fi_parts ft gw gp c k (p + 1) (fi_part ft gw gp c p P)).1 = _; rw [fiparts_1 k, fipart_1]
theorem fi_1 {ft gw gp : Nat → Int32} {c : Nat} {P : PS} : (fi_all ft gw gp c P).1 = P.1 := by unfold fi_all; rw [fiparts_1, fi0_1]
theorem fi0_2 : ∀ k i (P S : PS), P.2 = S.2 → (fi_0 k i P).2 = (fi_0 k i S).2
  | 0, _, _, _, h => h
  | k + 1, i, P, S, h => fi0_2 k (i + 1) _ _ (by
    show (P.2.1, P.2.2.1, va_up P.2.2.2.1 39 (va_up (P.2.2.2.1 39) i (some 0)), va_up P.2.2.2.2 40 (va_up (P.2.2.2.2 40) i false)) = (S.2.1, S.2.2.1, va_up S.2.2.2.1 39 (va_up (S.2.2.2.1 39) i (some 0)), va_up S.2.2.2.2 40 (va_up (S.2.2.2.2 40) i false))
    rw [h])
theorem aos_2 {P S : PS} (h : P.2 = S.2) (k i : Nat) (v : Option Nat) : (aos P k i v).2 = (aos S k i v).2 := by
  show (P.2.1, P.2.2.1, va_up P.2.2.2.1 k (va_up (P.2.2.2.1 k) i v), P.2.2.2.2) = (S.2.1, S.2.2.1, va_up S.2.2.2.1 k (va_up (S.2.2.2.1 k) i v), S.2.2.2.2)
  rw [h]
theorem filink_2 {ft gp : Nat → Int32} {c i l : Nat} {P S : PS} (h : P.2 = S.2) : (fi_link ft gp c i l P).2 = (fi_link ft gp c i l S).2 := by
  unfold fi_link
  rw [show S.2.2.1 28 l = P.2.2.1 28 l by rw [h], q_pin_2 h]
  cases q_pin ft gp P i (P.2.2.1 28 l) with
  | none => exact h
  | some x =>
    have er : q_ri ft S c l = q_ri ft P c l := by unfold q_ri q_inn; rw [h]
    rw [er]
    cases q_ri ft P c l with
    | none => exact h
    | some y =>
      show (if m_isOut (P.2.2.2.2 19) i x = true ∧ P.2.2.2.1 39 y = some 0 then aos P 39 y (q_lb P i x l) else P).2 = (if m_isOut (S.2.2.2.2 19) i x = true ∧ S.2.2.2.1 39 y = some 0 then aos S 39 y (q_lb S i x l) else S).2
      rw [q_lb_2 h, show S.2.2.2.2 19 = P.2.2.2.2 19 by rw [h], show S.2.2.2.1 39 y = P.2.2.2.1 39 y by rw [h]]
      split
      · exact aos_2 h _ _ _
      · exact h
theorem filinks_2 {ft gp : Nat → Int32} {c i : Nat} : ∀ k l (P S : PS), P.2 = S.2 → (fi_links ft gp c i k l P).2 = (fi_links ft gp c i k l S).2
  | 0, _, _, _, h => h
  | k + 1, l, P, S, h => filinks_2 k (l + 1) _ _ (filink_2 h)
theorem qchl_2 {ft : Nat → Int32} {t : Nat} {P S : PS} (h : P.2 = S.2) : ∀ k i g, q_chl ft S t k i g = q_chl ft P t k i g
  | 0, _, _ => rfl
  | k + 1, i, g => by
    show (if g = none then q_chl ft S t k (i + 1) (if m_like ft (S.2.2.1 8) (S.2.2.1 9) (S.2.2.1 16 i) t = true then some (2 + i) else none) else g) = (if g = none then q_chl ft P t k (i + 1) (if m_like ft (P.2.2.1 8) (P.2.2.1 9) (P.2.2.1 16 i) t = true then some (2 + i) else none) else g)
    rw [qchl_2 h k, ← h]
theorem qchip_2 {ft gw : Nat → Int32} {t : Nat} {P S : PS} (h : P.2 = S.2) (h15 : P.1 15 = S.1 15) : q_chip ft gw S t = q_chip ft gw P t := by
  unfold q_chip q_word; rw [qchl_2 h, ← h15, ← h]
theorem fipart_2 {ft gw gp : Nat → Int32} {c p : Nat} {P S : PS} (h : P.2 = S.2) (h15 : P.1 15 = S.1 15) : (fi_part ft gw gp c p P).2 = (fi_part ft gw gp c p S).2 := by
  have e1 : (fi_is ft gw p P).2 = (fi_is ft gw p S).2 := by
    unfold fi_is
    rw [show S.2.2.1 25 p = P.2.2.1 25 p by rw [h], qchip_2 h h15]; exact aos_2 h _ _ _
  unfold fi_part
  rw [show S.2.2.1 25 p = P.2.2.1 25 p by rw [h], qchip_2 h h15, show S.2.2.1 26 = P.2.2.1 26 by rw [h]]
  cases q_chip ft gw P (P.2.2.1 25 p) with
  | none => exact e1
  | some i => exact filinks_2 _ _ _ _ e1
theorem fiparts_2 {ft gw gp : Nat → Int32} {c : Nat} : ∀ k p (P S : PS), P.2 = S.2 → P.1 15 = S.1 15 → (fi_parts ft gw gp c k p P).2 = (fi_parts ft gw gp c k p S).2
  | 0, _, _, _, h, _ => h
  | k + 1, p, P, S, h, h15 => fiparts_2 k (p + 1) _ _ (fipart_2 h h15) (by rw [fipart_1, fipart_1]; exact h15)
theorem fi_2 {ft gw gp : Nat → Int32} {c : Nat} {P S : PS} (h : P.2 = S.2) (h15 : P.1 15 = S.1 15) : (fi_all ft gw gp c P).2 = (fi_all ft gw gp c S).2 := by
  unfold fi_all
  rw [show S.2.2.1 36 = P.2.2.1 36 by rw [h], show S.2.2.1 23 = P.2.2.1 23 by rw [h]]
  exact fiparts_2 _ _ _ _ (fi0_2 _ _ _ _ h) (by rw [fi0_1, fi0_1]; exact h15)
/-! Both ways through all chips find the same fault -/
def p2 (ft gw gp : Nat → Int32) : Nat → Nat → PS → PS
  | 0, _, P => P
  | k + 1, c, P => p2 ft gw gp k (c + 1) (cl_all ft gp c (fi_all ft gw gp c P))
theorem p2_u (ft gw gp : Nat → Int32) (n c : Nat) (P : PS) : p2 ft gw gp (n - c) c P = if c < n then p2 ft gw gp (n - (c + 1)) (c + 1) (cl_all ft gp c (fi_all ft gw gp c P)) else P := by
  by_cases h : c < n
  · rw [if_pos h, show n - c = (n - (c + 1)) + 1 by omega]; rfl
  · rw [if_neg h, show n - c = 0 by omega]; rfl
def k_all (ft gw gp : Nat → Int32) (nv : Nat → Nat) : Nat → Nat → PS → Option (Nat × Nat) × PS
  | 0, _, S => (none, S)
  | k + 1, c, S => match k1 ft gw nv c S with
    | some x => (some x, S)
    | none => if (kl_all ft gp c (fi_all ft gw gp c S)).1 = none then k_all ft gw gp nv k (c + 1) (kl_all ft gp c (fi_all ft gw gp c S)).2 else kl_all ft gp c (fi_all ft gw gp c S)
theorem kp_cla (ft gp : Nat → Int32) (c : Nat) (P : PS) : kp P (cl_all ft gp c P) := kp_tr (kp_rz 49 (Or.inr rfl) 200 0 P) (kp_parts _ _ _ _ _ _)
theorem chip_blw {ft gw gp : Nat → Int32} {nc c : Nat} {bd md : Nat → Nat} {P : PS} (hc : c < nc) (g : toc nc bd md P) (h5 : 0 < P.1 5) (h6 : P.1 6 < md c) : (cl_all ft gp c (fi_all ft gw gp c P)).1 = P.1 := by
  have kf := kp_fi ft gw gp c P
  have kr := kp_tr kf (kp_rz 49 (Or.inr rfl) 200 0 (fi_all ft gw gp c P))
  have gx := (toc_kp kr g) c hc
  unfold cl_all
  rw [show (fi_all ft gw gp c P).2.2.1 23 = P.2.2.1 23 from kf.2.1 23 (by decide) (by decide)]
  have e1 : (rz 49 200 0 (fi_all ft gw gp c P)).1 = P.1 := by rw [rz_1, fi_1]
  have e23 : (rz 49 200 0 (fi_all ft gw gp c P)).2.2.1 23 = P.2.2.1 23 := kr.2.1 23 (by decide) (by decide)
  rw [e23] at gx
  have gc := (g c hc).2.2.2.2
  rw [parts_blw (e := bd (c + 1)) (n := P.2.2.1 23 (c + 1)) _ _ _ (by omega) (fun p' a b => (gx.2.1 p' a b).1) (by rw [e1]; exact h5) (fun p' a b => by
    have := (gx.2.1 p' a b).2
    rw [e1]; omega), e1]
theorem p2_blw {ft gw gp : Nat → Int32} {nc : Nat} {bd md : Nat → Nat} : ∀ (k c : Nat) (P : PS), c + k = nc → toc nc bd md P → 0 < P.1 5 → (c < nc → P.1 6 < md c) → (p2 ft gw gp k c P).1 = P.1
  | 0, _, _, _, _, _, _ => rfl
  | k + 1, c, P, hn, g, h5, h6 => by
    have e := chip_blw (ft := ft) (gw := gw) (gp := gp) (by omega) g h5 (h6 (by omega))
    show (p2 ft gw gp k (c + 1) (cl_all ft gp c (fi_all ft gw gp c P))).1 = _
    rw [p2_blw k (c + 1) _ (by omega) (toc_kp (kp_tr (kp_fi ft gw gp c P) (kp_cla ft gp c _)) g) (by rw [e]; exact h5) (fun q => by
      rw [e]
      have h1 := h6 (by omega)
      have h2 := (g c (by omega)).2.2.1
      have h3 := (g (c + 1) q).2.2.1
      omega), e]
theorem kp_kparts {ft gp : Nat → Int32} {c : Nat} : ∀ (k p : Nat) (S : PS), kp S (kl_parts ft gp c k p S).2
  | 0, _, S => kp_rfl S
  | k + 1, p, S => by
    have h1 : kp S (kl_part ft gp c p S).2 := by
      unfold kl_part
      split
      · exact kp_rfl S
      · exact kp_tr (kp_rz 48 (Or.inl rfl) 200 0 S) (kp_kpart _ _ _)
    show kp S (if (kl_part ft gp c p S).1 = none then kl_parts ft gp c k (p + 1) (kl_part ft gp c p S).2 else kl_part ft gp c p S).2
    split
    · exact kp_tr h1 (kp_kparts k (p + 1) _)
    · exact h1
theorem k1_e {ft gw : Nat → Int32} {nv : Nat → Nat} {c : Nat} {P X : PS} (h : X.2 = P.2) : k1 ft gw nv c X = k1 ft gw nv c P := by
  have hp : ∀ k p, k1_pins ft nv c X k p = k1_pins ft nv c P k p := by
    intro k
    induction k with
    | zero => intro p; rfl
    | succ k ih =>
      intro p
      have e1 : k1_pin ft nv c p X = k1_pin ft nv c p P := by unfold k1_pin; rw [h]
      show (if k1_pin ft nv c p X = none then k1_pins ft nv c X k (p + 1) else k1_pin ft nv c p X) = (if k1_pin ft nv c p P = none then k1_pins ft nv c P k (p + 1) else k1_pin ft nv c p P)
      rw [e1, ih]
  unfold k1 q_word
  rw [hp, h]
theorem p2_cmp {ft gw gp : Nat → Int32} {nv : Nat → Nat} {nc : Nat} {bd md : Nat → Nat} : ∀ (k c : Nat) (P S : PS), c + k = nc → P.2 = S.2 → P.1 15 = S.1 15 → toc nc bd md P →
    ((P.1 5 = 0 ∧ ∀ c', c ≤ c' → c' < nc → k1 ft gw nv c' P = none) ∨ ∃ c1 n t, c ≤ c1 ∧ c1 < nc ∧ (∀ c', c ≤ c' → c' < c1 → k1 ft gw nv c' P = none) ∧ k1 ft gw nv c1 P = some (n, t) ∧ 0 < n ∧ P.1 5 = n ∧ P.1 6 = pl_ P t ∧ bd c1 ≤ pl_ P t ∧ pl_ P t < md c1) →
    ((k_all ft gw gp nv k c S).1 = none → (p2 ft gw gp k c P).2 = (k_all ft gw gp nv k c S).2.2 ∧ (p2 ft gw gp k c P).1 = P.1 ∧ P.1 5 = 0) ∧ ∀ n t, (k_all ft gw gp nv k c S).1 = some (n, t) → 0 < n ∧ (p2 ft gw gp k c P).1 5 = n ∧ (p2 ft gw gp k c P).1 6 = pl_ P t
  | 0, c, P, S, hn, e2, _, _, hf => by
    refine ⟨fun _ => ⟨e2, rfl, ?_⟩, fun n t h => by cases h⟩
    rcases hf with q | ⟨c1, n, t, q1, q2, -⟩
    · exact q.1
    · omega
  | k + 1, c, P, S, hn, e2, e15, g, hf => by
    have hc : c < nc := by omega
    have gc := g c hc
    have eS : k1 ft gw nv c S = k1 ft gw nv c P := k1_e e2.symm
    have eq : k_all ft gw gp nv (k + 1) c S = match k1 ft gw nv c S with
      | some x => (some x, S)
      | none => if (kl_all ft gp c (fi_all ft gw gp c S)).1 = none then k_all ft gw gp nv k (c + 1) (kl_all ft gp c (fi_all ft gw gp c S)).2 else kl_all ft gp c (fi_all ft gw gp c S) := rfl
    have eq2 : p2 ft gw gp (k + 1) c P = p2 ft gw gp k (c + 1) (cl_all ft gp c (fi_all ft gw gp c P)) := rfl
    rw [eq, eq2, eS]
    have kf := kp_fi ft gw gp c P
    have kc := kp_tr kf (kp_cla ft gp c (fi_all ft gw gp c P))
    have gX := toc_kp kc g
    cases hk : k1 ft gw nv c P with
    | some x =>
      obtain ⟨n, t⟩ := x
      -- it was found with the names and pins: all links are behind it
      have hfd : 0 < n ∧ P.1 5 = n ∧ P.1 6 = pl_ P t ∧ pl_ P t < md c := by
        rcases hf with q | ⟨c1, n', t', q1, q2, q3, q4, q5, q6, q7, q8, q9⟩
        · have := q.2 c (Nat.le_refl _) hc; rw [hk] at this; cases this
        · have ec : c1 = c := by
            by_cases z : c1 = c
            · exact z
            · have := q3 c (Nat.le_refl _) (by omega); rw [hk] at this; cases this
          rw [ec] at q4 q9
          rw [hk] at q4; cases q4
          exact ⟨q5, q6, q7, q9⟩
      have st := chip_blw (ft := ft) (gw := gw) (gp := gp) hc g (by rw [hfd.2.1]; exact hfd.1) (by rw [hfd.2.2.1]; exact hfd.2.2.2)
      have st2 := p2_blw (ft := ft) (gw := gw) (gp := gp) k (c + 1) (cl_all ft gp c (fi_all ft gw gp c P)) (by omega) gX (by rw [st, hfd.2.1]; exact hfd.1) (fun q => by
        rw [st, hfd.2.2.1]
        have h3 := (g (c + 1) q).2.2.1
        have := gc.2.2.1
        omega)
      rw [st] at st2
      refine ⟨fun h => (by cases h), fun n' t' h => ?_⟩
      cases h
      rw [st2]
      exact ⟨hfd.1, hfd.2.1, hfd.2.2.1⟩
    | none =>
      show ((if (kl_all ft gp c (fi_all ft gw gp c S)).1 = none then k_all ft gw gp nv k (c + 1) (kl_all ft gp c (fi_all ft gw gp c S)).2 else kl_all ft gp c (fi_all ft gw gp c S)).1 = none → _) ∧ ∀ n t, (if (kl_all ft gp c (fi_all ft gw gp c S)).1 = none then k_all ft gw gp nv k (c + 1) (kl_all ft gp c (fi_all ft gw gp c S)).2 else kl_all ft gp c (fi_all ft gw gp c S)).1 = some (n, t) → _
      -- what was found stands behind this chip, if anything was
      have hab : abe (bd (c + 1)) P := by
        rcases hf with q | ⟨c1, n', t', q1, q2, q3, q4, q5, q6, q7, q8, q9⟩
        · exact Or.inl q.1
        · have ec : c + 1 ≤ c1 := by
            by_cases z : c1 = c
            · rw [z] at q4; rw [hk] at q4; cases q4
            · omega
          have := bd_mono g (c1 - (c + 1)) (c + 1) (by omega)
          rw [show c + 1 + (c1 - (c + 1)) = c1 by omega] at this
          exact Or.inr (by omega)
      have f2 := fi_2 (ft := ft) (gw := gw) (gp := gp) (c := c) e2 e15
      have kr := kp_tr kf (kp_rz 49 (Or.inr rfl) 200 0 (fi_all ft gw gp c P))
      have gR := (toc_kp kr g) c hc
      have e23 : (fi_all ft gw gp c P).2.2.1 23 = P.2.2.1 23 := kf.2.1 23 (by decide) (by decide)
      have r23 : (rz 49 200 0 (fi_all ft gw gp c P)).2.2.1 23 = P.2.2.1 23 := kr.2.1 23 (by decide) (by decide)
      rw [r23] at gR
      have e1 : (rz 49 200 0 (fi_all ft gw gp c P)).1 = P.1 := by rw [rz_1, fi_1]
      have pc := parts_cmp (ft := ft) (gp := gp) (c := c) (e := bd (c + 1)) (n := P.2.2.1 23 (c + 1)) (P.2.2.1 23 (c + 1) - P.2.2.1 23 c) (P.2.2.1 23 c) (rz 49 200 0 (fi_all ft gw gp c P)) (rz 49 200 0 (fi_all ft gw gp c S)) (by have := gc.2.2.2.2; omega) (rz_2 49 200 0 _ _ f2) (fun p' a b => (gR.2.1 p' a b).1) (by unfold abe; rw [e1]; exact hab)
      have eC : cl_all ft gp c (fi_all ft gw gp c P) = cl_parts ft gp c (P.2.2.1 23 (c + 1) - P.2.2.1 23 c) (P.2.2.1 23 c) (rz 49 200 0 (fi_all ft gw gp c P)) := by unfold cl_all; rw [e23]
      have eK : kl_all ft gp c (fi_all ft gw gp c S) = kl_parts ft gp c (P.2.2.1 23 (c + 1) - P.2.2.1 23 c) (P.2.2.1 23 c) (rz 49 200 0 (fi_all ft gw gp c S)) := by
        unfold kl_all; rw [show (fi_all ft gw gp c S).2.2.1 23 = P.2.2.1 23 by rw [← f2]; exact e23]
      rw [← eC, ← eK] at pc
      have k8 : ∀ z, pl_ (rz 49 200 0 (fi_all ft gw gp c P)) z = pl_ P z := fun z => by unfold pl_; rw [kr.2.1 8 (by decide) (by decide)]
      by_cases hz : (kl_all ft gp c (fi_all ft gw gp c S)).1 = none
      · rw [if_pos hz]
        obtain ⟨g1, g2⟩ := pc.1.1 hz
        rw [e1] at g2
        have kk : ∀ c', k1 ft gw nv c' (cl_all ft gp c (fi_all ft gw gp c P)) = k1 ft gw nv c' P := fun c' => k1_2 kc
        have k8' : ∀ z, pl_ (cl_all ft gp c (fi_all ft gw gp c P)) z = pl_ P z := fun z => by unfold pl_; rw [kc.2.1 8 (by decide) (by decide)]
        have s15 : (kl_all ft gp c (fi_all ft gw gp c S)).2.1 15 = S.1 15 := by
          have : kp (rz 49 200 0 (fi_all ft gw gp c S)) (kl_all ft gp c (fi_all ft gw gp c S)).2 := by rw [eK]; exact kp_kparts _ _ _
          rw [this.1 15 (by decide) (by decide), rz_1, fi_1]
        have r := p2_cmp (ft := ft) (gw := gw) (gp := gp) (nv := nv) k (c + 1) (cl_all ft gp c (fi_all ft gw gp c P)) (kl_all ft gp c (fi_all ft gw gp c S)).2 (by omega) g1 (by rw [g2, s15]; exact e15) gX (by
          rcases hf with q | ⟨c1, n', t', q1, q2, q3, q4, q5, q6, q7, q8, q9⟩
          · exact Or.inl ⟨by rw [g2]; exact q.1, fun c' a b => by rw [kk]; exact q.2 c' (by omega) b⟩
          · refine Or.inr ⟨c1, n', t', ?_, q2, fun c' a b => by rw [kk]; exact q3 c' (by omega) b, by rw [kk]; exact q4, q5, by rw [g2]; exact q6, by rw [g2, k8']; exact q7, by rw [k8']; exact q8, by rw [k8']; exact q9⟩
            by_cases z : c1 = c
            · rw [z] at q4; rw [hk] at q4; cases q4
            · omega)
        rw [g2] at r
        refine ⟨r.1, fun n t h => ?_⟩
        have := r.2 n t h
        rw [k8'] at this
        exact this
      · rw [if_neg hz]
        obtain ⟨⟨n, t⟩, hnt⟩ : ∃ x, (kl_all ft gp c (fi_all ft gw gp c S)).1 = some x := Option.ne_none_iff_exists'.mp hz
        obtain ⟨g1, g2⟩ := pc.1.2 n t hnt
        obtain ⟨g3, g4⟩ := pc.2 n t hnt
        rw [k8] at g4
        have g2 : (cl_all ft gp c (fi_all ft gw gp c P)).1 6 = pl_ P t := by rw [← k8]; exact g2
        have st2 := p2_blw (ft := ft) (gw := gw) (gp := gp) k (c + 1) (cl_all ft gp c (fi_all ft gw gp c P)) (by omega) gX (by rw [g1]; exact g3) (fun q => by
          rw [g2]
          have h3 := (g (c + 1) q).2.2.1
          omega)
        refine ⟨fun h => absurd h hz, fun n' t' h => ?_⟩
        rw [hnt] at h; cases h
        rw [st2]
        exact ⟨g3, g1, g2⟩
/-- the checks of both sides, up to the rings -/
theorem checks_cmp {ft gw gp : Nat → Int32} {nv : Nat → Nat} {nc : Nat} {bd md : Nat → Nat} {P S : PS} (e2 : P.2 = S.2) (e15 : P.1 15 = S.1 15) (g : toc nc bd md P) (h5 : P.1 5 = 0) :
    ((k_all ft gw gp nv nc 0 S).1 = none → (p2 ft gw gp nc 0 (cp_all ft gw nv nc 0 P)).2 = (k_all ft gw gp nv nc 0 S).2.2 ∧ (p2 ft gw gp nc 0 (cp_all ft gw nv nc 0 P)).1 5 = 0) ∧ ∀ n t, (k_all ft gw gp nv nc 0 S).1 = some (n, t) → 0 < n ∧ (p2 ft gw gp nc 0 (cp_all ft gw nv nc 0 P)).1 5 = n ∧ (p2 ft gw gp nc 0 (cp_all ft gw nv nc 0 P)).1 6 = pl_ P t := by
  have c2 : (cp_all ft gw nv nc 0 P).2 = P.2 := cpall_2 _ _ _
  have kk : kp P (cp_all ft gw nv nc 0 P) := ⟨fun j a b => cpall_k a b _ _ _, fun _ _ _ => by rw [c2], fun _ _ _ => by rw [c2], fun _ _ => by rw [c2]⟩
  have k8 : ∀ z, pl_ (cp_all ft gw nv nc 0 P) z = pl_ P z := fun z => by unfold pl_; rw [c2]
  have r := p2_cmp (ft := ft) (gw := gw) (gp := gp) (nv := nv) nc 0 (cp_all ft gw nv nc 0 P) S (by omega) (by rw [c2]; exact e2) (by rw [kk.1 15 (by decide) (by decide)]; exact e15) (toc_2 c2 g) (by
    rcases all_cmp (ft := ft) (gw := gw) (nv := nv) nc 0 P (by omega) g h5 with ⟨q1, q2⟩ | ⟨c1, n, t, q1, q2, q3, q4, q5, q6, q7, q8, q9⟩
    · rw [q2]; exact Or.inl ⟨h5, q1⟩
    · exact Or.inr ⟨c1, n, t, q1, q2, fun c' a b => by rw [k1_2 kk]; exact q3 c' a b, by rw [k1_2 kk]; exact q4, q5, q6, by rw [k8]; exact q7, by rw [k8]; exact q8, by rw [k8]; exact q9⟩)
  refine ⟨fun h => ⟨(r.1 h).1, ?_⟩, fun n t h => ?_⟩
  · rw [(r.1 h).2.1]; exact (r.1 h).2.2
  · have := r.2 n t h
    rw [k8] at this
    exact this
/-! The text's order, out of what the parser left -/
theorem PT_fq {ft tv : Nat → Int32} {nv : Nat → Nat} {P : PS} (h : PT ft tv nv P) {k k' : Nat} (a : k ≤ k') (b : k' ≤ P.1 15) : P.2.2.1 23 k ≤ P.2.2.1 23 k' ∧ P.2.2.1 23 k' ≤ P.1 24 := by
  have fm := h.si.2.1.fm
  by_cases q : k' = P.1 15
  · rw [q, h.qe]
    by_cases q' : k = P.1 15
    · rw [q', h.qe]; omega
    · exact ⟨(fm k k (Nat.le_refl _) (by omega)).2, Nat.le_refl _⟩
  · exact fm k k' a (by omega)
theorem PT_fp {ft tv : Nat → Int32} {nv : Nat → Nat} {P : PS} (h : PT ft tv nv P) {k k' : Nat} (a : k ≤ k') (b : k' ≤ P.1 15) : P.2.2.1 17 k ≤ P.2.2.1 17 k' ∧ P.2.2.1 17 k' ≤ P.1 18 := by
  have fm := h.si.1.fm
  by_cases q : k' = P.1 15
  · rw [q, h.pe]
    by_cases q' : k = P.1 15
    · rw [q', h.pe]; omega
    · exact ⟨(fm k k (Nat.le_refl _) (by omega)).2, Nat.le_refl _⟩
  · exact fm k k' a (by omega)
theorem PT_fi {ft tv : Nat → Int32} {nv : Nat → Nat} {P : PS} (h : PT ft tv nv P) {k k' : Nat} (a : k ≤ k') (b : k' ≤ P.1 15) : P.2.2.1 36 k ≤ P.2.2.1 36 k' ∧ P.2.2.1 36 k' ≤ P.1 37 := by
  have fm := h.si.2.2.2.1.fm
  by_cases q : k' = P.1 15
  · rw [q, h.ie]
    by_cases q' : k = P.1 15
    · rw [q', h.ie]; omega
    · exact ⟨(fm k k (Nat.le_refl _) (by omega)).2, Nat.le_refl _⟩
  · exact fm k k' a (by omega)
theorem PT_fl {ft tv : Nat → Int32} {nv : Nat → Nat} {P : PS} (h : PT ft tv nv P) {p p' : Nat} (a : p ≤ p') (b : p' ≤ P.1 24) : P.2.2.1 26 p ≤ P.2.2.1 26 p' ∧ P.2.2.1 26 p' ≤ P.1 27 := by
  have fm := h.si.2.2.1.fm
  by_cases q : p' = P.1 24
  · rw [q, h.le]
    by_cases q' : p = P.1 24
    · rw [q', h.le]; omega
    · exact ⟨(fm p p (Nat.le_refl _) (by omega)).2, Nat.le_refl _⟩
  · exact fm p p' a (by omega)
def t_bd (P : PS) (c : Nat) : Nat := if c < P.1 15 then pl_ P (P.2.2.1 16 c) else 3000
def t_md (P : PS) (c : Nat) : Nat := if P.2.2.1 23 c < P.2.2.1 23 (c + 1) then pl_ P (P.2.2.1 25 (P.2.2.1 23 c)) else t_bd P (c + 1)
theorem PT_toc {ft tv : Nat → Int32} {nv : Nat → Nat} {T : Nat} {P : PS} (h : PT ft tv nv P) (hi : tinc T (P.2.2.1 8)) (h12 : P.1 12 ≤ T) (h8 : ∀ t, P.2.2.1 8 t ≤ 2000) : toc (P.1 15) (t_bd P) (t_md P) P := by
  obtain ⟨sc, sq, sl, si, -⟩ := h.si
  have lt : ∀ u v, u < v → v < P.1 12 → pl_ P u < pl_ P v := fun u v a b => hi u v a (by omega)
  have big : ∀ t, pl_ P t < 3000 := fun t => by have := h8 t; unfold pl_; omega
  intro c hc
  have q1 := PT_fq h (Nat.le_refl c) (Nat.le_of_lt hc)
  have q2 := PT_fq h (show c ≤ c + 1 by omega) (by omega)
  have f1 := PT_fp h (show c ≤ c + 1 by omega) (by omega)
  have bc : t_bd P c = pl_ P (P.2.2.1 16 c) := if_pos hc
  -- below the next chip
  have nx : ∀ t, (c + 1 < P.1 15 → t < P.2.2.1 16 (c + 1)) → pl_ P t < t_bd P (c + 1) := by
    intro t ht
    unfold t_bd
    split
    · rename_i z; exact lt _ _ (ht z) (sc.ck (c + 1) z).2
    · exact big t
  -- below the parts of this chip
  have bm : ∀ t, (∀ p, P.2.2.1 23 c ≤ p → p < P.1 24 → t < P.2.2.1 25 p) → (c + 1 < P.1 15 → t < P.2.2.1 16 (c + 1)) → pl_ P t < t_md P c := by
    intro t h1 h2
    unfold t_md
    split
    · rename_i z; exact lt _ _ (h1 _ (Nat.le_refl _) (by omega)) (sq.qk _ (by omega)).2
    · exact nx t h2
  have pin_n : ∀ p, P.2.2.1 17 c ≤ p → p < P.2.2.1 17 (c + 1) → (c + 1 < P.1 15 → P.2.2.1 20 p < P.2.2.1 16 (c + 1) ∧ ∀ t, P.2.2.2.1 22 p = some t → t < P.2.2.1 16 (c + 1)) := fun p a b z => (sc.pc (c + 1) p z (by omega)).2 b
  have pin_q : ∀ p, P.2.2.1 17 c ≤ p → p < P.2.2.1 17 (c + 1) → ∀ p', P.2.2.1 23 c ≤ p' → p' < P.1 24 → P.2.2.1 20 p < P.2.2.1 25 p' ∧ ∀ t, P.2.2.2.1 22 p = some t → t < P.2.2.1 25 p' := fun p a b p' a' b' => sq.pq c p p' hc (by omega) b' (fun _ => b) a'
  refine ⟨⟨by rw [bc]; exact Nat.le_refl _, ?_, fun p a b => ?_⟩, fun p a b => ⟨⟨?_, fun j j1 j2 => ?_, fun p' a' b' => ⟨?_, fun j j1 j2 => ?_⟩⟩, ?_⟩, ⟨?_, ?_⟩, f1.1, q2.1⟩
  · exact bm _ (fun p a b => (sq.qc c p hc b).1 a) (fun z => sc.cm c (c + 1) (by omega) z)
  · have hp : p < P.1 18 := by omega
    obtain ⟨k1, k2, k3, k4⟩ := sc.pk p hp
    refine ⟨lt _ _ ((sc.pc c p hc hp).1 a) k2, bm _ (fun p' a' b' => (pin_q p a b p' a' b').1) (fun z => (pin_n p a b z).1), fun z hz => ?_, fun p' a' b' => ?_⟩
    · obtain ⟨z1, z2, -⟩ := k3 z hz
      exact ⟨lt _ _ z1 z2, bm _ (fun p' a' b' => (pin_q p a b p' a' b').2 z hz) (fun y => (pin_n p a b y).2 z hz)⟩
    · have hp' : p' < P.1 18 := by omega
      have k2' := (sc.pk p' hp').2.1
      obtain ⟨m1, m2⟩ := sc.pm p p' a' hp'
      exact ⟨lt _ _ m1 k2', fun z hz => lt _ _ (m2 z hz) k2'⟩
  · exact nx _ (fun z => (sq.qc (c + 1) p z (by omega)).2 b)
  · have hp : p < P.1 24 := by omega
    have fl := PT_fl h (show p ≤ p + 1 by omega) (by omega)
    have hj : j < P.1 27 := by omega
    obtain ⟨k1, k2, k3, k4, k5, k6, k7⟩ := sl.lk j hj
    have ln := fun z : c + 1 < P.1 15 => sl.lc (c + 1) j z hj (fun y => by
      have := (PT_fl h (show p + 1 ≤ P.2.2.1 23 (c + 1) by omega) (by omega)).1
      omega)
    refine ⟨⟨lt _ _ k2 k3, fun z hz => ⟨lt _ _ (k4 z hz).1 (by have := (k4 z hz).2; omega), lt _ _ (k4 z hz).2 k3⟩, fun z hz => lt _ _ (k5 z hz).1 (k5 z hz).2⟩, nx _ (fun z => (ln z).1), fun z hz => nx _ (fun y => (ln y).2 z hz), lt _ _ ((sl.ql p j hp hj).1 j1) (by omega), fun j' a' b' => ?_⟩
    have hj' : j' < P.1 27 := by omega
    have r' := (sl.lk j' hj')
    obtain ⟨m1, m2⟩ := sl.lm j j' a' hj'
    exact ⟨lt _ _ m1 (by omega), fun z hz => lt _ _ (m2 z hz) (by omega)⟩
  · exact lt _ _ (sq.qm p p' a' (by omega)) (sq.qk p' (by omega)).2
  · have hp' : p' < P.1 24 := by omega
    have hj : j < P.1 27 := by have := PT_fl h (show p ≤ p + 1 by omega) (show p + 1 ≤ P.1 24 by omega); omega
    have fl := (PT_fl h (show p + 1 ≤ p' by omega) (by omega)).1
    obtain ⟨m1, m2⟩ := (sl.ql p' j hp' hj).2 (by omega)
    have k2' := (sq.qk p' hp').2
    exact ⟨lt _ _ m1 k2', fun z hz => lt _ _ (m2 z hz) k2'⟩
  · unfold t_md
    rw [if_pos (by omega)]
    by_cases z : p = P.2.2.1 23 c
    · rw [z]; exact Nat.le_refl _
    · exact Nat.le_of_lt (lt _ _ (sq.qm _ p (by omega) (by omega)) (sq.qk p (by omega)).2)
  · rw [bc]
    exact Nat.le_of_lt (bm _ (fun p a b => (sq.qc c p hc b).1 a) (fun z => sc.cm c (c + 1) (by omega) z))
  · unfold t_md
    split
    · rename_i z
      exact Nat.le_of_lt (nx _ (fun y => (sq.qc (c + 1) _ y (by omega)).2 z))
    · exact Nat.le_refl _
/-! What the checks need of the rows, all along -/
/-- the bytes of token t are no blanks -/
def nmt (ft : Nat → Int32) (P : PS) (t : Nat) : Prop := ∀ i, i < P.2.2.1 9 t → ¬ ft (P.2.2.1 8 t + i) = nI 32
def chk (ft tv gw gp : Nat → Int32) (nv : Nat → Nat) (P : PS) : Prop := (∀ k j, k ≠ 48 → k ≠ 49 → P.2.2.1 k j < bk k) ∧ (∀ k j z, P.2.2.2.1 k j = some z → z < 1002) ∧ (∀ j, P.2.2.1 48 j < 65536) ∧ (∀ j, P.2.2.1 49 j < 65536) ∧ (∀ t, P.2.2.1 8 t + P.2.2.1 9 t ≤ 2000) ∧ (P.1 15 ≤ 8) ∧ (P.1 5 ≤ 6) ∧ (P.1 6 < 2 ^ 31) ∧ (gw 8 = nI 32) ∧ (gp 10 = nI 32) ∧ (∀ j, j < P.1 15 → nmt ft P (P.2.2.1 16 j)) ∧ (∀ j, j < P.1 24 → nmt ft P (P.2.2.1 25 j)) ∧ (∀ j, j < P.1 27 → nmt ft P (P.2.2.1 28 j)) ∧ (∀ j z, j < P.1 18 → P.2.2.2.1 22 j = some z → tv z = nI (nv z) ∧ nv z ≤ 99) ∧ (∀ j, j < P.1 15 → P.2.2.1 17 j ≤ P.2.2.1 17 (j + 1) ∧ P.2.2.1 17 (j + 1) ≤ P.1 18) ∧ (∀ j, j < P.1 15 → P.2.2.1 23 j ≤ P.2.2.1 23 (j + 1) ∧ P.2.2.1 23 (j + 1) ≤ P.1 24) ∧ (∀ j, j < P.1 15 → P.2.2.1 36 j ≤ P.2.2.1 36 (j + 1) ∧ P.2.2.1 36 (j + 1) ≤ P.1 37) ∧ (∀ j, j < P.1 24 → P.2.2.1 26 j ≤ P.2.2.1 26 (j + 1) ∧ P.2.2.1 26 (j + 1) ≤ P.1 27) ∧ (∀ y w, P.2.2.2.1 39 y = some w → w ≤ 16) ∧ (P.1 24 ≤ 100) ∧ (P.1 27 ≤ 400) ∧ (P.1 37 ≤ 300) ∧ (P.1 18 ≤ 100) ∧ (∀ j, P.2.2.1 21 j ≤ 16) ∧ (∀ j, j < P.1 27 → P.2.2.2.1 29 j = none → P.2.2.1 30 j = 0 ∧ P.2.2.1 31 j = 0) ∧ (∀ j, j < P.1 27 → P.2.2.1 7 (P.2.2.1 32 j) = 1 → P.2.2.2.1 33 j = none → P.2.2.1 34 j = 0 ∧ P.2.2.1 35 j = 0) ∧ (∀ k r j, k < P.1 15 → P.2.2.1 23 k ≤ r → r < P.2.2.1 23 (k + 1) → P.2.2.1 26 r ≤ j → j < P.2.2.1 26 (r + 1) → P.2.2.1 7 (P.2.2.1 32 j) = 1 → q_own ft P k (P.2.2.1 32 j) ≠ none ∨ q_inn ft P k (P.2.2.1 32 j) ≠ none)
theorem chk.ab {ft tv gw gp : Nat → Int32} {nv : Nat → Nat} {P : PS} (h : chk ft tv gw gp nv P) : ∀ k j, k ≠ 48 → k ≠ 49 → P.2.2.1 k j < bk k := h.1
theorem chk.ao {ft tv gw gp : Nat → Int32} {nv : Nat → Nat} {P : PS} (h : chk ft tv gw gp nv P) : ∀ k j z, P.2.2.2.1 k j = some z → z < 1002 := h.2.1
theorem chk.m48 {ft tv gw gp : Nat → Int32} {nv : Nat → Nat} {P : PS} (h : chk ft tv gw gp nv P) : ∀ j, P.2.2.1 48 j < 65536 := h.2.2.1
theorem chk.m49 {ft tv gw gp : Nat → Int32} {nv : Nat → Nat} {P : PS} (h : chk ft tv gw gp nv P) : ∀ j, P.2.2.1 49 j < 65536 := h.2.2.2.1
theorem chk.t4 {ft tv gw gp : Nat → Int32} {nv : Nat → Nat} {P : PS} (h : chk ft tv gw gp nv P) : ∀ t, P.2.2.1 8 t + P.2.2.1 9 t ≤ 2000 := h.2.2.2.2.1
theorem chk.c8 {ft tv gw gp : Nat → Int32} {nv : Nat → Nat} {P : PS} (h : chk ft tv gw gp nv P) : P.1 15 ≤ 8 := h.2.2.2.2.2.1
theorem chk.ng5 {ft tv gw gp : Nat → Int32} {nv : Nat → Nat} {P : PS} (h : chk ft tv gw gp nv P) : P.1 5 ≤ 6 := h.2.2.2.2.2.2.1
theorem chk.ng6 {ft tv gw gp : Nat → Int32} {nv : Nat → Nat} {P : PS} (h : chk ft tv gw gp nv P) : P.1 6 < 2 ^ 31 := h.2.2.2.2.2.2.2.1
theorem chk.g8 {ft tv gw gp : Nat → Int32} {nv : Nat → Nat} {P : PS} (h : chk ft tv gw gp nv P) : gw 8 = nI 32 := h.2.2.2.2.2.2.2.2.1
theorem chk.g10 {ft tv gw gp : Nat → Int32} {nv : Nat → Nat} {P : PS} (h : chk ft tv gw gp nv P) : gp 10 = nI 32 := h.2.2.2.2.2.2.2.2.2.1
theorem chk.nc {ft tv gw gp : Nat → Int32} {nv : Nat → Nat} {P : PS} (h : chk ft tv gw gp nv P) : ∀ j, j < P.1 15 → nmt ft P (P.2.2.1 16 j) := h.2.2.2.2.2.2.2.2.2.2.1
theorem chk.np {ft tv gw gp : Nat → Int32} {nv : Nat → Nat} {P : PS} (h : chk ft tv gw gp nv P) : ∀ j, j < P.1 24 → nmt ft P (P.2.2.1 25 j) := h.2.2.2.2.2.2.2.2.2.2.2.1
theorem chk.nl {ft tv gw gp : Nat → Int32} {nv : Nat → Nat} {P : PS} (h : chk ft tv gw gp nv P) : ∀ j, j < P.1 27 → nmt ft P (P.2.2.1 28 j) := h.2.2.2.2.2.2.2.2.2.2.2.2.1
theorem chk.nn {ft tv gw gp : Nat → Int32} {nv : Nat → Nat} {P : PS} (h : chk ft tv gw gp nv P) : ∀ j z, j < P.1 18 → P.2.2.2.1 22 j = some z → tv z = nI (nv z) ∧ nv z ≤ 99 := h.2.2.2.2.2.2.2.2.2.2.2.2.2.1
theorem chk.pe {ft tv gw gp : Nat → Int32} {nv : Nat → Nat} {P : PS} (h : chk ft tv gw gp nv P) : ∀ j, j < P.1 15 → P.2.2.1 17 j ≤ P.2.2.1 17 (j + 1) ∧ P.2.2.1 17 (j + 1) ≤ P.1 18 := h.2.2.2.2.2.2.2.2.2.2.2.2.2.2.1
theorem chk.qe {ft tv gw gp : Nat → Int32} {nv : Nat → Nat} {P : PS} (h : chk ft tv gw gp nv P) : ∀ j, j < P.1 15 → P.2.2.1 23 j ≤ P.2.2.1 23 (j + 1) ∧ P.2.2.1 23 (j + 1) ≤ P.1 24 := h.2.2.2.2.2.2.2.2.2.2.2.2.2.2.2.1
theorem chk.ie {ft tv gw gp : Nat → Int32} {nv : Nat → Nat} {P : PS} (h : chk ft tv gw gp nv P) : ∀ j, j < P.1 15 → P.2.2.1 36 j ≤ P.2.2.1 36 (j + 1) ∧ P.2.2.1 36 (j + 1) ≤ P.1 37 := h.2.2.2.2.2.2.2.2.2.2.2.2.2.2.2.2.1
theorem chk.le {ft tv gw gp : Nat → Int32} {nv : Nat → Nat} {P : PS} (h : chk ft tv gw gp nv P) : ∀ j, j < P.1 24 → P.2.2.1 26 j ≤ P.2.2.1 26 (j + 1) ∧ P.2.2.1 26 (j + 1) ≤ P.1 27 := h.2.2.2.2.2.2.2.2.2.2.2.2.2.2.2.2.2.1
theorem chk.iw {ft tv gw gp : Nat → Int32} {nv : Nat → Nat} {P : PS} (h : chk ft tv gw gp nv P) : ∀ y w, P.2.2.2.1 39 y = some w → w ≤ 16 := h.2.2.2.2.2.2.2.2.2.2.2.2.2.2.2.2.2.2.1
theorem chk.s24 {ft tv gw gp : Nat → Int32} {nv : Nat → Nat} {P : PS} (h : chk ft tv gw gp nv P) : P.1 24 ≤ 100 := h.2.2.2.2.2.2.2.2.2.2.2.2.2.2.2.2.2.2.2.1
theorem chk.s27 {ft tv gw gp : Nat → Int32} {nv : Nat → Nat} {P : PS} (h : chk ft tv gw gp nv P) : P.1 27 ≤ 400 := h.2.2.2.2.2.2.2.2.2.2.2.2.2.2.2.2.2.2.2.2.1
theorem chk.s37 {ft tv gw gp : Nat → Int32} {nv : Nat → Nat} {P : PS} (h : chk ft tv gw gp nv P) : P.1 37 ≤ 300 := h.2.2.2.2.2.2.2.2.2.2.2.2.2.2.2.2.2.2.2.2.2.1
theorem chk.s18 {ft tv gw gp : Nat → Int32} {nv : Nat → Nat} {P : PS} (h : chk ft tv gw gp nv P) : P.1 18 ≤ 100 := h.2.2.2.2.2.2.2.2.2.2.2.2.2.2.2.2.2.2.2.2.2.2.1
theorem chk.w1 {ft tv gw gp : Nat → Int32} {nv : Nat → Nat} {P : PS} (h : chk ft tv gw gp nv P) : ∀ j, P.2.2.1 21 j ≤ 16 := h.2.2.2.2.2.2.2.2.2.2.2.2.2.2.2.2.2.2.2.2.2.2.2.1
theorem chk.l0 {ft tv gw gp : Nat → Int32} {nv : Nat → Nat} {P : PS} (h : chk ft tv gw gp nv P) : ∀ j, j < P.1 27 → P.2.2.2.1 29 j = none → P.2.2.1 30 j = 0 ∧ P.2.2.1 31 j = 0 := h.2.2.2.2.2.2.2.2.2.2.2.2.2.2.2.2.2.2.2.2.2.2.2.2.1
theorem chk.r0 {ft tv gw gp : Nat → Int32} {nv : Nat → Nat} {P : PS} (h : chk ft tv gw gp nv P) : ∀ j, j < P.1 27 → P.2.2.1 7 (P.2.2.1 32 j) = 1 → P.2.2.2.1 33 j = none → P.2.2.1 34 j = 0 ∧ P.2.2.1 35 j = 0 := h.2.2.2.2.2.2.2.2.2.2.2.2.2.2.2.2.2.2.2.2.2.2.2.2.2.1
theorem chk.ri {ft tv gw gp : Nat → Int32} {nv : Nat → Nat} {P : PS} (h : chk ft tv gw gp nv P) : ∀ k r j, k < P.1 15 → P.2.2.1 23 k ≤ r → r < P.2.2.1 23 (k + 1) → P.2.2.1 26 r ≤ j → j < P.2.2.1 26 (r + 1) → P.2.2.1 7 (P.2.2.1 32 j) = 1 → q_own ft P k (P.2.2.1 32 j) ≠ none ∨ q_inn ft P k (P.2.2.1 32 j) ≠ none := h.2.2.2.2.2.2.2.2.2.2.2.2.2.2.2.2.2.2.2.2.2.2.2.2.2.2
theorem chk.p8 {ft tv gw gp : Nat → Int32} {nv : Nat → Nat} {P : PS} (h : chk ft tv gw gp nv P) (t : Nat) : P.2.2.1 8 t < 2 ^ 31 := by have := h.t4 t; omega
theorem chk.ao_44 {ft tv gw gp : Nat → Int32} {nv : Nat → Nat} {P : PS} (h : chk ft tv gw gp nv P) : ∀ y w, P.2.2.2.1 44 y = some w → w < 1002 := h.ao 44
theorem chk.f17 {ft tv gw gp : Nat → Int32} {nv : Nat → Nat} {P : PS} (h : chk ft tv gw gp nv P) : ∀ j, P.2.2.1 17 j ≤ 200 := fun j => Nat.lt_succ_iff.mp (h.ab 17 j (by decide) (by decide))
theorem chk.f36 {ft tv gw gp : Nat → Int32} {nv : Nat → Nat} {P : PS} (h : chk ft tv gw gp nv P) : ∀ j, P.2.2.1 36 j ≤ 700 := fun j => Nat.lt_succ_iff.mp (h.ab 36 j (by decide) (by decide))
/-- the rows may change as the checks do -/
theorem chk_kp {ft tv gw gp : Nat → Int32} {nv : Nat → Nat} {P X : PS} (h : chk ft tv gw gp nv P) (kk : kp P X) (h39 : ∀ y w, X.2.2.2.1 39 y = some w → w ≤ 16) (h44 : ∀ y w, X.2.2.2.1 44 y = some w → w < 1002) (h48 : ∀ j, X.2.2.1 48 j < 65536) (h49 : ∀ j, X.2.2.1 49 j < 65536) (h5 : X.1 5 ≤ 6) (h6 : X.1 6 < 2 ^ 31) : chk ft tv gw gp nv X := by
  obtain ⟨k1, k2, k3, k4⟩ := kk
  have z15 := k1 15 (by decide) (by decide)
  have z18 := k1 18 (by decide) (by decide)
  have z24 := k1 24 (by decide) (by decide)
  have z27 := k1 27 (by decide) (by decide)
  have z37 := k1 37 (by decide) (by decide)
  have a : ∀ k, k ≠ 48 → k ≠ 49 → X.2.2.1 k = P.2.2.1 k := k2
  refine ⟨fun k j a b => by rw [k2 k a b]; exact h.ab k j a b, fun k j z hz => ?_, h48, h49, ?_, by rw [z15]; exact h.c8, h5, h6, h.g8, h.g10, ?_, ?_, ?_, ?_, ?_, ?_, ?_, ?_, h39, by rw [z24]; exact h.s24, by rw [z27]; exact h.s27, by rw [z37]; exact h.s37, by rw [z18]; exact h.s18, fun j => by rw [k2 21 (by decide) (by decide)]; exact h.w1 j, ?_, ?_, ?_⟩
  · by_cases q : k = 39
    · subst q; have := h39 j z hz; omega
    · by_cases q' : k = 44
      · subst q'; exact h44 j z hz
      · rw [k3 k q q'] at hz; exact h.ao k j z hz
  · rw [a 8 (by decide) (by decide), a 9 (by decide) (by decide)]; exact h.t4
  · unfold nmt; rw [z15, a 8 (by decide) (by decide), a 9 (by decide) (by decide), a 16 (by decide) (by decide)]; exact h.nc
  · unfold nmt; rw [z24, a 8 (by decide) (by decide), a 9 (by decide) (by decide), a 25 (by decide) (by decide)]; exact h.np
  · unfold nmt; rw [z27, a 8 (by decide) (by decide), a 9 (by decide) (by decide), a 28 (by decide) (by decide)]; exact h.nl
  · rw [z18, k3 22 (by decide) (by decide)]; exact h.nn
  · rw [z15, z18, a 17 (by decide) (by decide)]; exact h.pe
  · rw [z15, z24, a 23 (by decide) (by decide)]; exact h.qe
  · rw [z15, z37, a 36 (by decide) (by decide)]; exact h.ie
  · rw [z24, z27, a 26 (by decide) (by decide)]; exact h.le
  · rw [z27, k3 29 (by decide) (by decide), a 30 (by decide) (by decide), a 31 (by decide) (by decide)]; exact h.l0
  · rw [z27, k3 33 (by decide) (by decide), a 7 (by decide) (by decide), a 32 (by decide) (by decide), a 34 (by decide) (by decide), a 35 (by decide) (by decide)]; exact h.r0
  · unfold q_own q_inn
    rw [z15, a 7 (by decide) (by decide), a 8 (by decide) (by decide), a 9 (by decide) (by decide), a 17 (by decide) (by decide), a 20 (by decide) (by decide), a 23 (by decide) (by decide), a 26 (by decide) (by decide), a 32 (by decide) (by decide), a 36 (by decide) (by decide), a 38 (by decide) (by decide)]; exact h.ri
theorem chk_note {ft tv gw gp : Nat → Int32} {nv : Nat → Nat} {P : PS} (h : chk ft tv gw gp nv P) {n t : Nat} (hn : n ≤ 6) : chk ft tv gw gp nv (sp_note n t P) := by
  refine chk_kp h (kp_nt n t P) ?_ ?_ ?_ ?_ ?_ ?_
  · rw [nt_2]; exact h.iw
  · rw [nt_2]; exact h.ao 44
  · rw [nt_2]; exact h.m48
  · rw [nt_2]; exact h.m49
  · unfold sp_note; split
    · exact h.ng5
    · exact hn
  · unfold sp_note; split
    · exact h.ng6
    · exact h.p8 t
theorem chk_cpa {ft tv gw gp : Nat → Int32} {nv : Nat → Nat} {P : PS} (h : chk ft tv gw gp nv P) {f : Nat → Int32} {c p : Nat} : chk ft tv gw gp nv (cp_a f c p P) := by
  unfold cp_a; split
  · exact chk_note h (by decide)
  · exact h
theorem chk_cpb {ft tv gw gp : Nat → Int32} {nv : Nat → Nat} {P : PS} (h : chk ft tv gw gp nv P) {f : Nat → Nat} {p : Nat} : chk ft tv gw gp nv (cp_b f p P) := by
  unfold cp_b; split
  · exact h
  · split
    · exact chk_note h (by decide)
    · exact h
theorem chk_cpt {ft tv gw gp : Nat → Int32} {nv : Nat → Nat} {P : PS} (h : chk ft tv gw gp nv P) {f g : Nat → Int32} {c : Nat} : chk ft tv gw gp nv (cp_t f g c P) := by
  unfold cp_t; split
  · exact chk_note h (by decide)
  · exact h
theorem chk_pins {ft tv gw gp : Nat → Int32} {nv : Nat → Nat} {f : Nat → Int32} {g : Nat → Nat} {c : Nat} : ∀ k p P, chk ft tv gw gp nv P → chk ft tv gw gp nv (cp_pins f g c k p P)
  | 0, _, _, h => h
  | k + 1, p, P, h => chk_pins k (p + 1) _ (chk_cpb (chk_cpa h))
theorem chk_cpch {ft tv gw gp : Nat → Int32} {nv : Nat → Nat} {P : PS} (h : chk ft tv gw gp nv P) {f g : Nat → Int32} {v : Nat → Nat} {c : Nat} : chk ft tv gw gp nv (cp_ch f g v c P) := chk_pins _ _ _ (chk_cpt h)
theorem chk_all {ft tv gw gp : Nat → Int32} {nv : Nat → Nat} {f g : Nat → Int32} {v : Nat → Nat} : ∀ k c P, chk ft tv gw gp nv P → chk ft tv gw gp nv (cp_all f g v k c P)
  | 0, _, _, h => h
  | k + 1, c, P, h => chk_all k (c + 1) _ (chk_cpch h)
theorem chk_39 {ft tv gw gp : Nat → Int32} {nv : Nat → Nat} {P : PS} (h : chk ft tv gw gp nv P) {i : Nat} {v : Option Nat} (hv : ∀ w, v = some w → w ≤ 16) : chk ft tv gw gp nv (aos P 39 i v) := by
  refine chk_kp h (kp_aos (Or.inl rfl)) (fun y w hw => ?_) h.ao_44 h.m48 h.m49 h.ng5 h.ng6
  have hw : (if y = i then v else P.2.2.2.1 39 y) = some w := hw
  split at hw
  · exact hv w hw
  · exact h.iw y w hw
theorem chk_44 {ft tv gw gp : Nat → Int32} {nv : Nat → Nat} {P : PS} (h : chk ft tv gw gp nv P) {i : Nat} {v : Option Nat} (hv : ∀ w, v = some w → w < 1002) : chk ft tv gw gp nv (aos P 44 i v) := by
  refine chk_kp h (kp_aos (Or.inr rfl)) h.iw (fun y w hw => ?_) h.m48 h.m49 h.ng5 h.ng6
  have hw : (if y = i then v else P.2.2.2.1 44 y) = some w := hw
  split at hw
  · exact hv w hw
  · exact h.ao 44 y w hw
theorem chk_40 {ft tv gw gp : Nat → Int32} {nv : Nat → Nat} {P : PS} (h : chk ft tv gw gp nv P) {i : Nat} {v : Bool} : chk ft tv gw gp nv (abs_ P 40 i v) := chk_kp h kp_abs h.iw h.ao_44 h.m48 h.m49 h.ng5 h.ng6
theorem chk_48 {ft tv gw gp : Nat → Int32} {nv : Nat → Nat} {P : PS} (h : chk ft tv gw gp nv P) {i v : Nat} (hv : v < 65536) : chk ft tv gw gp nv (ars P 48 i v) := by
  refine chk_kp h (kp_ars (Or.inl rfl)) h.iw h.ao_44 (fun j => ?_) h.m49 h.ng5 h.ng6
  show (if j = i then v else P.2.2.1 48 j) < _
  split
  · exact hv
  · exact h.m48 j
theorem chk_49 {ft tv gw gp : Nat → Int32} {nv : Nat → Nat} {P : PS} (h : chk ft tv gw gp nv P) {i v : Nat} (hv : v < 65536) : chk ft tv gw gp nv (ars P 49 i v) := by
  refine chk_kp h (kp_ars (Or.inr rfl)) h.iw h.ao_44 h.m48 (fun j => ?_) h.ng5 h.ng6
  show (if j = i then v else P.2.2.1 49 j) < _
  split
  · exact hv
  · exact h.m49 j
theorem q_pin_lt {ft gp : Nat → Int32} {P : PS} {i t x : Nat} (hf : ∀ j, P.2.2.1 17 j ≤ 200) (h : q_pin ft gp P i t = some x) : x < 200 := by
  unfold q_pin at h
  split at h
  · have h1 := m_find_in _ _ _ h
    have h2 := hf (i - 2)
    have h3 := hf (i - 2 + 1)
    omega
  · split at h
    · split at h
      · cases h
      · have := m_word_le _ _ _ _ h; omega
    · split at h
      · cases h; decide
      · split at h
        · cases h; decide
        · cases h
theorem q_own_lt {ft : Nat → Int32} {P : PS} {k t x : Nat} (hf : ∀ j, P.2.2.1 17 j ≤ 200) (h : q_own ft P k t = some x) : x < 200 := by
  have h1 := m_find_in _ _ _ h
  have h2 := hf k
  have h3 := hf (k + 1)
  omega
theorem q_inn_lt {ft : Nat → Int32} {P : PS} {k t x : Nat} (hf : ∀ j, P.2.2.1 36 j ≤ 700) (h : q_inn ft P k t = some x) : x < 700 := by
  have h1 := m_find_in _ _ _ h
  have h2 := hf k
  have h3 := hf (k + 1)
  omega
theorem m_fits_ij {o : Option Nat} {i j n : Nat} (h : m_fits o i j n = true) (h0 : o = none → i = 0 ∧ j = 0) : i ≤ j := by
  cases o with
  | none => have := h0 rfl; omega
  | some z => unfold m_fits at h; rw [if_neg (by simp)] at h; simp at h; exact h.1
theorem m_bits_le {o : Option Nat} {i j n : Nat} (h : m_fits o i j n = true) (hn : n ≤ 16) : m_bits o i j n + q_low o i ≤ 16 := by
  unfold m_bits q_low
  cases o with
  | none => rw [if_pos rfl, if_pos rfl]; omega
  | some z => unfold m_fits at h; rw [if_neg (by simp)] at h; simp at h; rw [if_neg (by simp), if_neg (by simp)]; omega
