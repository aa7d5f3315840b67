/-! The order of the reference's Nands -/
/-- the bit v is Nand y's -/
def dep (gd : Nat → Bool) (go_ : Nat → Nat) (v y : Nat) : Prop := 2 ≤ v ∧ go_ (v - 2) = y + 1 ∧ gd y = false
def OI (gd : Nat → Bool) (gob ga gb : Nat → Nat) (gc : Nat) (O : OR) : Prop :=
  (∀ x v, x < gc → O.1 x = some v → gd x = false ∧ omx (lo gob gd O.1 (ga x)) (lo gob gd O.1 (gb x)) = some v ∧ ∃ p, p < O.2.2.1 ∧ O.2.1 p = x) ∧
  (∀ p, p < O.2.2.1 → O.2.1 p < gc ∧ O.1 (O.2.1 p) ≠ none ∧ ∀ y, y < gc → (dep gd gob (ga (O.2.1 p)) y ∨ dep gd gob (gb (O.2.1 p)) y) → ∃ p', p' < p ∧ O.2.1 p' = y) ∧
  (∀ p p', p < p' → p' < O.2.2.1 → O.2.1 p ≠ O.2.1 p') ∧ cns (fun j => decide (O.1 j ≠ none)) gc = O.2.2.1
section ORS
variable {gd : Nat → Bool} {gob ga gb : Nat → Nat} {gc : Nat} {O : OR}
theorem lo_dep {gl : Nat → Option Nat} {v y : Nat} (h : dep gd gob v y) : lo gob gd gl v = gl y := by
  unfold lo
  rw [if_neg (by have := h.1; omega), if_neg (by rw [h.2.1]; omega), h.2.1, Nat.add_sub_cancel, if_neg (by rw [h.2.2]; decide)]
theorem lo_no {gl : Nat → Option Nat} {v : Nat} (h : ∀ y, ¬ dep gd gob v y) : lo gob gd gl v = some 0 := by
  unfold lo
  by_cases a : v < 2
  · rw [if_pos a]
  · rw [if_neg a]
    by_cases b : gob (v - 2) = 0
    · rw [if_pos b]
    · rw [if_neg b]
      by_cases c : gd (gob (v - 2) - 1) = true
      · rw [if_pos c]
      · exact absurd ⟨by omega, by omega, Bool.eq_false_iff.mpr c⟩ (h (gob (v - 2) - 1))
theorem dep_or (v : Nat) : (∃ y, dep gd gob v y) ∨ ∀ y, ¬ dep gd gob v y := by
  by_cases h : ∃ y, dep gd gob v y
  · exact Or.inl h
  · exact Or.inr (fun y z => h ⟨y, z⟩)
theorem lo_up {gl : Nat → Option Nat} {x w v a : Nat} (hx : gl x = none) (h : lo gob gd gl v = some a) : lo gob gd (va_up gl x (some w)) v = some a := by
  rcases dep_or (gd := gd) (gob := gob) v with ⟨y, hy⟩ | hn
  · rw [lo_dep hy] at h ⊢
    rw [va_up_ne _ _ (fun e => by rw [e, hx] at h; cases h)]; exact h
  · rw [lo_no hn] at h ⊢; exact h
theorem omx_s {a b : Option Nat} {v : Nat} (h : omx a b = some v) : ∃ x y, a = some x ∧ b = some y ∧ v = 1 + max x y := by
  rcases a with _ | x
  · cases h
  · rcases b with _ | y
    · cases h
    · refine ⟨x, y, rfl, rfl, ?_⟩
      have h : some (1 + (if y < x then x else y)) = some v := h
      have h := Option.some.inj h
      rw [← h]
      split <;> omega
theorem omx_n {a b : Option Nat} (h : omx a b = none) : a = none ∨ b = none := by
  rcases a with _ | x
  · exact Or.inl rfl
  · rcases b with _ | y
    · exact Or.inr rfl
    · cases h
theorem OI_1 {x : Nat} (hx : x < gc) (hga : ∀ x y, x < gc → dep gd gob (ga x) y → y < gc) (hgb : ∀ x y, x < gc → dep gd gob (gb x) y → y < gc) (h : OI gd gob ga gb gc O) : OI gd gob ga gb gc (or_1 gd gob ga gb x O) := by
  unfold or_1
  by_cases c1 : gd x = true ∨ O.1 x ≠ none
  · rw [if_pos c1]; exact h
  rw [if_neg c1]
  have gx : gd x = false := Bool.eq_false_iff.mpr (fun z => c1 (Or.inl z))
  have lx : O.1 x = none := by
    rcases e : O.1 x with _ | z
    · rfl
    · exact absurd (Or.inr (by rw [e]; exact fun z => by cases z)) c1
  rcases ev : omx (lo gob gd O.1 (ga x)) (lo gob gd O.1 (gb x)) with _ | v
  · exact h
  obtain ⟨a, b, ea, eb, -⟩ := omx_s ev
  obtain ⟨h1, h2, h3, h4⟩ := h
  have ku : ∀ y, y ≠ x → va_up O.1 x (some v) y = O.1 y := fun y hy => va_up_ne _ _ hy
  have om : ∀ y w, omx (lo gob gd O.1 (ga y)) (lo gob gd O.1 (gb y)) = some w → omx (lo gob gd (va_up O.1 x (some v)) (ga y)) (lo gob gd (va_up O.1 x (some v)) (gb y)) = some w := fun y w e => by
    obtain ⟨a, b, ea, eb, -⟩ := omx_s e
    rw [lo_up lx ea, lo_up lx eb, ← ea, ← eb]; exact e
  have px : ∀ p, p < O.2.2.1 → O.2.1 p ≠ x := fun p hp e => (h2 p hp).2.1 (by rw [e]; exact lx)
  have go1 : ∀ p, p < O.2.2.1 → va_up O.2.1 O.2.2.1 x p = O.2.1 p := fun p hp => va_up_ne _ _ (by omega)
  refine ⟨fun y w hy e => ?_, fun p hp => ?_, fun p p' hpp hp' => ?_, ?_⟩
  · have e : va_up O.1 x (some v) y = some w := e
    show gd y = false ∧ omx (lo gob gd (va_up O.1 x (some v)) (ga y)) (lo gob gd (va_up O.1 x (some v)) (gb y)) = some w ∧ ∃ p, p < O.2.2.1 + 1 ∧ va_up O.2.1 O.2.2.1 x p = y
    by_cases z : y = x
    · subst z
      rw [va_up_self] at e
      have : v = w := Option.some.inj e
      subst this
      exact ⟨gx, om y v ev, O.2.2.1, by omega, va_up_self _ _ _⟩
    · rw [ku y z] at e
      obtain ⟨a1, a2, p, a3, a4⟩ := h1 y w hy e
      exact ⟨a1, om y w a2, p, by omega, by rw [go1 p a3]; exact a4⟩
  · have hp : p < O.2.2.1 + 1 := hp
    show va_up O.2.1 O.2.2.1 x p < gc ∧ va_up O.1 x (some v) (va_up O.2.1 O.2.2.1 x p) ≠ none ∧ ∀ y, y < gc → (dep gd gob (ga (va_up O.2.1 O.2.2.1 x p)) y ∨ dep gd gob (gb (va_up O.2.1 O.2.2.1 x p)) y) → ∃ p', p' < p ∧ va_up O.2.1 O.2.2.1 x p' = y
    by_cases z : p = O.2.2.1
    · subst z
      rw [va_up_self, va_up_self]
      refine ⟨hx, fun z => (by cases z), fun y hy hd => ?_⟩
      have ly : ∃ w, O.1 y = some w := by
        rcases hd with hd | hd
        · rw [lo_dep hd] at ea; exact ⟨a, ea⟩
        · rw [lo_dep hd] at eb; exact ⟨b, eb⟩
      obtain ⟨w, hw⟩ := ly
      obtain ⟨-, -, p, a3, a4⟩ := h1 y w hy hw
      exact ⟨p, a3, by rw [go1 p a3]; exact a4⟩
    · rw [go1 p (by omega)]
      obtain ⟨a1, a2, a3⟩ := h2 p (by omega)
      refine ⟨a1, by rw [ku _ (px p (by omega))]; exact a2, fun y hy hd => ?_⟩
      obtain ⟨p', b1, b2⟩ := a3 y hy hd
      exact ⟨p', b1, by rw [go1 p' (by omega)]; exact b2⟩
  · have hp' : p' < O.2.2.1 + 1 := hp'
    show va_up O.2.1 O.2.2.1 x p ≠ va_up O.2.1 O.2.2.1 x p'
    rw [go1 p (by omega)]
    by_cases z : p' = O.2.2.1
    · rw [z, va_up_self]; exact px p (by omega)
    · rw [go1 p' (by omega)]; exact h3 p p' hpp (by omega)
  · show cns (fun j => decide (va_up O.1 x (some v) j ≠ none)) gc = O.2.2.1 + 1
    rw [← h4]
    refine cns_up (j := x) (by simp only [lx]; decide) (by simp only [va_up_self]; exact decide_eq_true (fun z => by cases z)) (fun i hi => ?_) gc hx
    show decide (O.1 i ≠ none) = decide (va_up O.1 x (some v) i ≠ none)
    rw [ku i hi]
theorem OI_r (hga : ∀ x y, x < gc → dep gd gob (ga x) y → y < gc) (hgb : ∀ x y, x < gc → dep gd gob (gb x) y → y < gc) : ∀ k i O, i + k ≤ gc → OI gd gob ga gb gc O → OI gd gob ga gb gc (or_r gd gob ga gb k i O)
  | 0, _, _, _, h => h
  | k + 1, i, O, hi, h => OI_r hga hgb k (i + 1) _ (by omega) (OI_1 (by omega) hga hgb h)
theorem or1_or (x : Nat) (O : OR) : or_1 gd gob ga gb x O = O ∨ (or_1 gd gob ga gb x O).2.2.2 = true := by
  unfold or_1
  split
  · exact Or.inl rfl
  · split
    · exact Or.inl rfl
    · exact Or.inr rfl
theorem orr_t : ∀ k i (O : OR), O.2.2.2 = true → (or_r gd gob ga gb k i O).2.2.2 = true
  | 0, _, _, h => h
  | k + 1, i, O, h => orr_t k (i + 1) _ (by rcases or1_or (gd := gd) (gob := gob) (ga := ga) (gb := gb) i O with e | e; rw [e]; exact h; exact e)
/-- a round that changes nothing -/
theorem orr_f : ∀ k i (O : OR), (or_r gd gob ga gb k i O).2.2.2 = false → or_r gd gob ga gb k i O = O ∧ ∀ x, i ≤ x → x < i + k → or_1 gd gob ga gb x O = O
  | 0, i, O, _ => ⟨rfl, fun x a b => by omega⟩
  | k + 1, i, O, h => by
    have h : (or_r gd gob ga gb k (i + 1) (or_1 gd gob ga gb i O)).2.2.2 = false := h
    have e1 : or_1 gd gob ga gb i O = O := by
      rcases or1_or (gd := gd) (gob := gob) (ga := ga) (gb := gb) i O with e | e
      · exact e
      · rw [orr_t k (i + 1) _ e] at h; cases h
    rw [e1] at h
    obtain ⟨a, b⟩ := orr_f k (i + 1) O h
    refine ⟨by show or_r gd gob ga gb k (i + 1) (or_1 gd gob ga gb i O) = O; rw [e1]; exact a, fun x x1 x2 => ?_⟩
    by_cases z : x = i
    · rw [z]; exact e1
    · exact b x (by omega) (by omega)
theorem OI_w (hga : ∀ x y, x < gc → dep gd gob (ga x) y → y < gc) (hgb : ∀ x y, x < gc → dep gd gob (gb x) y → y < gc) : ∀ k O, OI gd gob ga gb gc O → gc < O.2.2.1 + k → OI gd gob ga gb gc (or_w gd gob ga gb gc k O) ∧ ∀ x, x < gc → or_1 gd gob ga gb x (or_w gd gob ga gb gc k O) = or_w gd gob ga gb gc k O
  | 0, O, h, hk => by
    have := h.2.2.2
    have := cns_le (fun j => decide (O.1 j ≠ none)) gc
    omega
  | k + 1, O, h, hk => by
    have h0 : OI gd gob ga gb gc (O.1, O.2.1, O.2.2.1, false) := h
    have hr := OI_r hga hgb gc 0 _ (by omega) h0
    have ho := or_r_od (gd := gd) (gb := gob) (ga := ga) (gb_ := gb) gc 0 (O.1, O.2.1, O.2.2.1, false)
    have eU : or_w gd gob ga gb gc (k + 1) O = if (or_r gd gob ga gb gc 0 (O.1, O.2.1, O.2.2.1, false)).2.2.2 = true then or_w gd gob ga gb gc k (or_r gd gob ga gb gc 0 (O.1, O.2.1, O.2.2.1, false)) else or_r gd gob ga gb gc 0 (O.1, O.2.1, O.2.2.1, false) := rfl
    rw [eU]
    by_cases e : (or_r gd gob ga gb gc 0 (O.1, O.2.1, O.2.2.1, false)).2.2.2 = true
    · rw [if_pos e]
      have := ho.2 rfl e
      exact OI_w hga hgb k _ hr (by have : O.2.2.1 < _ := this; omega)
    · rw [if_neg e]
      obtain ⟨a, b⟩ := orr_f gc 0 _ (Bool.eq_false_iff.mpr e)
      rw [a]
      exact ⟨h0, fun x hx => b x (Nat.zero_le _) (by omega)⟩
/-- each Nand needs Nands of lower rank -/
def RKR (gd : Nat → Bool) (gob ga gb : Nat → Nat) (gc : Nat) (Lv : Nat → Nat) : Prop := ∀ x y, x < gc → y < gc → gd x = false → (dep gd gob (ga x) y ∨ dep gd gob (gb x) y) → Lv y < Lv x
theorem or_full (hga : ∀ x y, x < gc → dep gd gob (ga x) y → y < gc) (hgb : ∀ x y, x < gc → dep gd gob (gb x) y → y < gc) {Lv : Nat → Nat} (hr : RKR gd gob ga gb gc Lv) (hfx : ∀ x, x < gc → or_1 gd gob ga gb x O = O) : ∀ N x, Lv x < N → x < gc → gd x = false → O.1 x ≠ none
  | 0, _, h, _, _ => by omega
  | N + 1, x, hN, hx, gx => fun lx => by
    have fx := hfx x hx
    unfold or_1 at fx
    rw [if_neg (by rintro (z | z); (rw [gx] at z; cases z); exact z lx)] at fx
    rcases ev : omx (lo gob gd O.1 (ga x)) (lo gob gd O.1 (gb x)) with _ | v
    · have nn : ∀ v, (∀ y, dep gd gob v y → y < gc ∧ Lv y < Lv x) → lo gob gd O.1 v ≠ none := fun v hv => by
        rcases dep_or (gd := gd) (gob := gob) v with ⟨y, hy⟩ | hn
        · rw [lo_dep hy]
          exact or_full hga hgb hr hfx N y (by have := (hv y hy).2; omega) (hv y hy).1 hy.2.2
        · rw [lo_no hn]; exact fun z => by cases z
      rcases omx_n ev with z | z
      · exact nn (ga x) (fun y hy => ⟨hga x y hx hy, hr x y hx (hga x y hx hy) gx (Or.inl hy)⟩) z
      · exact nn (gb x) (fun y hy => ⟨hgb x y hx hy, hr x y hx (hgb x y hx hy) gx (Or.inr hy)⟩) z
    · rw [ev] at fx
      have fx : (va_up O.1 x (some v), va_up O.2.1 O.2.2.1 x, O.2.2.1 + 1, true) = O := fx
      have := congrArg (fun z : OR => z.2.2.1) fx
      have : O.2.2.1 + 1 = O.2.2.1 := this
      omega
/-- levels are a rank -/
theorem OI.rank (h : OI gd gob ga gb gc O) (hf : ∀ x, x < gc → gd x = false → O.1 x ≠ none) : RKR gd gob ga gb gc (fun x => (O.1 x).getD 0) := fun x y hx hy gx hd => by
  rcases e : O.1 x with _ | v
  · exact absurd e (hf x hx gx)
  obtain ⟨-, a2, -⟩ := h.1 x v hx e
  obtain ⟨a, b, ea, eb, ev⟩ := omx_s a2
  show (O.1 y).getD 0 < (O.1 x).getD 0
  rw [e]
  show (O.1 y).getD 0 < v
  rcases hd with hd | hd
  · rw [lo_dep hd] at ea; rw [ea]; show a < v; omega
  · rw [lo_dep hd] at eb; rw [eb]; show b < v; omega
theorem or0_cnt : ∀ k i (T : (Nat → Option Nat) × Nat), (or_0 gd k i T).2 + cns (fun j => decide (gd j = false)) i = T.2 + cns (fun j => decide (gd j = false)) (i + k)
  | 0, _, _ => rfl
  | k + 1, i, T => by
    have e : or_0 gd (k + 1) i T = or_0 gd k (i + 1) (va_up T.1 i none, if gd i = true then T.2 else T.2 + 1) := rfl
    have r : (or_0 gd k (i + 1) (va_up T.1 i none, if gd i = true then T.2 else T.2 + 1)).2 + cns (fun j => decide (gd j = false)) (i + 1) = (if gd i = true then T.2 else T.2 + 1) + cns (fun j => decide (gd j = false)) (i + 1 + k) := or0_cnt k (i + 1) _
    have c : cns (fun j => decide (gd j = false)) (i + 1) = cns (fun j => decide (gd j = false)) i + (if decide (gd i = false) = true then 1 else 0) := rfl
    have ab : (if gd i = true then T.2 else T.2 + 1) = T.2 + (if decide (gd i = false) = true then 1 else 0) := by cases gd i <;> rfl
    rw [e, show i + (k + 1) = i + 1 + k by omega]
    rw [c] at r
    generalize (or_0 gd k (i + 1) (va_up T.1 i none, if gd i = true then T.2 else T.2 + 1)).2 = U at r ⊢
    rw [ab] at r
    omega
theorem cns_imp {p q : Nat → Bool} (h : ∀ i, p i = true → q i = true) : ∀ n, cns p n ≤ cns q n ∧ (cns p n = cns q n → ∀ i, i < n → p i = q i)
  | 0 => ⟨Nat.le_refl _, fun _ i hi => by omega⟩
  | n + 1 => by
    obtain ⟨a, b⟩ := cns_imp h n
    have e1 : cns p (n + 1) = cns p n + (if p n = true then 1 else 0) := rfl
    have e2 : cns q (n + 1) = cns q n + (if q n = true then 1 else 0) := rfl
    rcases z : p n with _ | _
    · rcases w : q n with _ | _
      · rw [e1, e2, z, w]
        refine ⟨by simpa using a, fun e i hi => ?_⟩
        by_cases ei : i = n
        · rw [ei, z, w]
        · exact b (by simpa using e) i (by omega)
      · rw [e1, e2, z, w]
        refine ⟨by simp; omega, fun e => ?_⟩
        simp at e; omega
    · have w := h n z
      rw [e1, e2, z, w]
      refine ⟨by simp; omega, fun e i hi => ?_⟩
      by_cases ei : i = n
      · rw [ei, z, w]
      · exact b (by simpa using e) i (by omega)
/-- all Nands are ordered, or not all -/
theorem or_cnt (h : OI gd gob ga gb gc O) {gl : Nat → Option Nat} : O.2.2.1 = (or_0 gd gc 0 (gl, 0)).2 ↔ ∀ x, x < gc → gd x = false → O.1 x ≠ none := by
  have c0 : (or_0 gd gc 0 (gl, 0)).2 + cns (fun j => decide (gd j = false)) 0 = 0 + cns (fun j => decide (gd j = false)) (0 + gc) := or0_cnt (gd := gd) gc 0 (gl, 0)
  have c : (or_0 gd gc 0 (gl, 0)).2 = cns (fun j => decide (gd j = false)) gc := by
    rw [show cns (fun j => decide (gd j = false)) 0 = 0 from rfl, Nat.zero_add gc] at c0
    omega
  rw [c, ← h.2.2.2]
  have imp := cns_imp (p := fun j => decide (O.1 j ≠ none ∧ j < gc)) (q := fun j => decide (gd j = false)) (fun j hj => by
    have hj := of_decide_eq_true hj
    rcases e : O.1 j with _ | v
    · exact absurd e hj.1
    · exact decide_eq_true (h.1 j v hj.2 e).1) gc
  have ep : cns (fun j => decide (O.1 j ≠ none)) gc = cns (fun j => decide (O.1 j ≠ none ∧ j < gc)) gc := cns_eq gc (fun i hi => decide_eq_decide.mpr ⟨fun z => ⟨z, hi⟩, fun z => z.1⟩)
  rw [ep]
  constructor
  · intro e x hx gx
    have := imp.2 e x hx
    have this : decide (O.1 x ≠ none ∧ x < gc) = decide (gd x = false) := this
    rw [decide_eq_true gx] at this
    exact (of_decide_eq_true this).1
  · intro hf
    refine cns_eq gc (fun i hi => decide_eq_decide.mpr ⟨fun z => ?_, fun z => ⟨hf i hi z, hi⟩⟩)
    rcases e : O.1 i with _ | v
    · exact absurd e z.1
    · exact (h.1 i v hi e).1
end ORS
