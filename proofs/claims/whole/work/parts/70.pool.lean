/-! The pool of objects: what lies at an address (0: nothing, 1 .. 7: an object, n + 8: an array of n references), and its contents by address and place -/
abbrev PG := (Nat → Nat) × (Nat → Nat → Nat) × (Nat → Nat → Option Nat) × (Nat → Nat → Bool) × (Nat → Nat → Int64) × (Nat → Nat → Option Nat)
def up2 {α : Type} (f : Nat → Nat → α) (a k : Nat) (v : α) : Nat → Nat → α := fun b j => if b = a ∧ j = k then v else f b j
theorem up2_s {α : Type} (f : Nat → Nat → α) (a k : Nat) (v : α) : up2 f a k v a k = v := if_pos ⟨rfl, rfl⟩
theorem up2_a {α : Type} (f : Nat → Nat → α) {a b : Nat} (k : Nat) (v : α) (j : Nat) (h : b ≠ a) : up2 f a k v b j = f b j := if_neg (fun q => h q.1)
theorem up2_k {α : Type} (f : Nat → Nat → α) (a : Nat) {k j : Nat} (v : α) (b : Nat) (h : j ≠ k) : up2 f a k v b j = f b j := if_neg (fun q => h q.2)
theorem up2_r {α : Type} (f : Nat → Nat → α) {a b : Nat} (k : Nat) (v : α) (h : b ≠ a) : up2 f a k v b = f b := by funext j; exact up2_a f k v j h
theorem up2_x {α : Type} (f : Nat → Nat → α) (a k : Nat) (v : α) : up2 f a k v a = va_up (f a) k v := by
  funext j; unfold up2 va_up
  by_cases h : j = k
  · rw [if_pos ⟨rfl, h⟩, if_pos h]
  · rw [if_neg (fun q => h q.2), if_neg h]
abbrev gN (G : PG) (a k v : Nat) : PG := (G.1, up2 G.2.1 a k v, G.2.2)
abbrev gO (G : PG) (a k : Nat) (v : Option Nat) : PG := (G.1, G.2.1, up2 G.2.2.1 a k v, G.2.2.2)
abbrev gB (G : PG) (a k : Nat) (v : Bool) : PG := (G.1, G.2.1, G.2.2.1, up2 G.2.2.2.1 a k v, G.2.2.2.2)
abbrev gJ (G : PG) (a k : Nat) (v : Int64) : PG := (G.1, G.2.1, G.2.2.1, G.2.2.2.1, up2 G.2.2.2.2.1 a k v, G.2.2.2.2.2)
abbrev gR (G : PG) (a k : Nat) (v : Option Nat) : PG := (G.1, G.2.1, G.2.2.1, G.2.2.2.1, G.2.2.2.2.1, up2 G.2.2.2.2.2 a k v)
/-- a new object at a, all its places empty -/
def g0 (G : PG) (a n : Nat) : PG := (va_up G.1 a n, va_up G.2.1 a (fun _ => 0), va_up G.2.2.1 a (fun _ => some 0), va_up G.2.2.2.1 a (fun _ => false), va_up G.2.2.2.2.1 a (fun _ => 0), va_up G.2.2.2.2.2 a (fun _ => none))
/-- the address b is as before -/
def gs (G G' : PG) (b : Nat) : Prop := G'.1 b = G.1 b ∧ G'.2.1 b = G.2.1 b ∧ G'.2.2.1 b = G.2.2.1 b ∧ G'.2.2.2.1 b = G.2.2.2.1 b ∧ G'.2.2.2.2.1 b = G.2.2.2.2.1 b ∧ G'.2.2.2.2.2 b = G.2.2.2.2.2 b
theorem gs.rf (G : PG) (b : Nat) : gs G G b := ⟨rfl, rfl, rfl, rfl, rfl, rfl⟩
theorem gs.tr {G G1 G2 : PG} {b : Nat} (h : gs G G1 b) (h2 : gs G1 G2 b) : gs G G2 b := ⟨h2.1.trans h.1, h2.2.1.trans h.2.1, h2.2.2.1.trans h.2.2.1, h2.2.2.2.1.trans h.2.2.2.1, h2.2.2.2.2.1.trans h.2.2.2.2.1, h2.2.2.2.2.2.trans h.2.2.2.2.2⟩
theorem gs_N {G : PG} {a k v b : Nat} (h : b ≠ a) : gs G (gN G a k v) b := ⟨rfl, up2_r _ _ _ h, rfl, rfl, rfl, rfl⟩
theorem gs_O {G : PG} {a k b : Nat} {v : Option Nat} (h : b ≠ a) : gs G (gO G a k v) b := ⟨rfl, rfl, up2_r _ _ _ h, rfl, rfl, rfl⟩
theorem gs_B {G : PG} {a k b : Nat} {v : Bool} (h : b ≠ a) : gs G (gB G a k v) b := ⟨rfl, rfl, rfl, up2_r _ _ _ h, rfl, rfl⟩
theorem gs_J {G : PG} {a k b : Nat} {v : Int64} (h : b ≠ a) : gs G (gJ G a k v) b := ⟨rfl, rfl, rfl, rfl, up2_r _ _ _ h, rfl⟩
theorem gs_R {G : PG} {a k b : Nat} {v : Option Nat} (h : b ≠ a) : gs G (gR G a k v) b := ⟨rfl, rfl, rfl, rfl, rfl, up2_r _ _ _ h⟩
theorem gs_0 {G : PG} {a n b : Nat} (h : b ≠ a) : gs G (g0 G a n) b := ⟨va_up_ne _ _ h, va_up_ne _ _ h, va_up_ne _ _ h, va_up_ne _ _ h, va_up_ne _ _ h, va_up_ne _ _ h⟩
theorem g0_q (G : PG) (a n : Nat) : (g0 G a n).1 a = n := va_up_self _ _ _
/-- the list of addresses holds all that lies in the pool -/
def gL (L : List Nat) (G : PG) : Prop := ∀ b, G.1 b ≠ 0 → b ∈ L
theorem gL_m {L : List Nat} {G : PG} {a k : Nat} (hL : gL L G) (h : G.1 a = k) (hk : k ≠ 0) : a ∈ L := hL a (by rw [h]; exact hk)
theorem gL_new {L : List Nat} {G : PG} {a n : Nat} (hL : gL L G) : gL (L ++ [a]) (g0 G a n) := fun b hb => by
  by_cases e : b = a
  · rw [e]; exact List.mem_append_right _ (List.mem_singleton.mpr rfl)
  · rw [(gs_0 e).1] at hb; exact List.mem_append_left _ (hL b hb)
theorem g0_ne {L : List Nat} {G : PG} {a b k : Nat} (hL : gL L G) (h : G.1 b = k) (hk : k ≠ 0) (hq : a ∉ L) : b ≠ a := fun q => hq (q ▸ gL_m hL h hk)
theorem g0_k {L : List Nat} {G : PG} {a n b k : Nat} (hL : gL L G) (h : G.1 b = k) (hk : k ≠ 0) (hq : a ∉ L) : (g0 G a n).1 b = k := ((gs_0 (g0_ne hL h hk hq)).1).trans h
theorem g0_n {L : List Nat} {G : PG} {a : Nat} (hL : gL L G) (hq : a ∉ L) : G.1 a = 0 := by
  by_cases e : G.1 a = 0
  · exact e
  · exact absurd (hL a e) hq
def gE (cO : ClassId) (G : PG) (a : Nat) : va_E := if G.1 a = 1 then .inr (7, [.long (G.2.2.2.2.1 a 0), .long (G.2.2.2.2.1 a 1), .int (oI (G.2.2.1 a 2))]) else if G.1 a = 2 then .inr (8, [va_rf (G.2.2.2.2.2 a 0), .int (nI (G.2.1 a 1)), .int (nI (G.2.1 a 2)), .int (oI (G.2.2.1 a 3)), .int (nI (G.2.1 a 4)), .int (nI (G.2.1 a 5)), .int (bI (G.2.2.2.1 a 6))]) else if G.1 a = 3 then .inr (11, [va_rf (G.2.2.2.2.2 a 0), .int (oI (G.2.2.1 a 1)), .int (oI (G.2.2.1 a 2)), .int (nI (G.2.1 a 3)), .int (nI (G.2.1 a 4))]) else if G.1 a = 4 then .inr (12, [va_rf (G.2.2.2.2.2 a 0), va_rf (G.2.2.2.2.2 a 1), va_rf (G.2.2.2.2.2 a 2), va_rf (G.2.2.2.2.2 a 3)]) else if G.1 a = 5 then .inr (10, [va_rf (G.2.2.2.2.2 a 0), va_rf (G.2.2.2.2.2 a 1), va_rf (G.2.2.2.2.2 a 2)]) else if G.1 a = 6 then .inr (6, [va_rf (G.2.2.2.2.2 a 0), .int (nI (G.2.1 a 1)), .int (nI (G.2.1 a 2)), va_rf (G.2.2.2.2.2 a 3), va_rf (G.2.2.2.2.2 a 4), va_rf (G.2.2.2.2.2 a 5), .int (nI (G.2.1 a 6)), .int (nI (G.2.1 a 7)), .int (nI (G.2.1 a 8))]) else if G.1 a = 7 then .inr (4, [va_rf (G.2.2.2.2.2 a 0), .int (nI (G.2.1 a 1)), .int (nI (G.2.1 a 2))]) else .inl (cO, G.1 a - 8, .inr (.inr (.inr (.inr (G.2.2.2.2.2 a)))))
theorem gE_1 {cO : ClassId} {G : PG} {a : Nat} (h : G.1 a = 1) : gE cO G a = .inr (7, [.long (G.2.2.2.2.1 a 0), .long (G.2.2.2.2.1 a 1), .int (oI (G.2.2.1 a 2))]) := by unfold gE; rw [if_pos h]
theorem gE_2 {cO : ClassId} {G : PG} {a : Nat} (h : G.1 a = 2) : gE cO G a = .inr (8, [va_rf (G.2.2.2.2.2 a 0), .int (nI (G.2.1 a 1)), .int (nI (G.2.1 a 2)), .int (oI (G.2.2.1 a 3)), .int (nI (G.2.1 a 4)), .int (nI (G.2.1 a 5)), .int (bI (G.2.2.2.1 a 6))]) := by unfold gE; rw [if_neg (by rw [h]; decide), if_pos h]
theorem gE_3 {cO : ClassId} {G : PG} {a : Nat} (h : G.1 a = 3) : gE cO G a = .inr (11, [va_rf (G.2.2.2.2.2 a 0), .int (oI (G.2.2.1 a 1)), .int (oI (G.2.2.1 a 2)), .int (nI (G.2.1 a 3)), .int (nI (G.2.1 a 4))]) := by unfold gE; rw [if_neg (by rw [h]; decide), if_neg (by rw [h]; decide), if_pos h]
theorem gE_4 {cO : ClassId} {G : PG} {a : Nat} (h : G.1 a = 4) : gE cO G a = .inr (12, [va_rf (G.2.2.2.2.2 a 0), va_rf (G.2.2.2.2.2 a 1), va_rf (G.2.2.2.2.2 a 2), va_rf (G.2.2.2.2.2 a 3)]) := by unfold gE; rw [if_neg (by rw [h]; decide), if_neg (by rw [h]; decide), if_neg (by rw [h]; decide), if_pos h]
theorem gE_5 {cO : ClassId} {G : PG} {a : Nat} (h : G.1 a = 5) : gE cO G a = .inr (10, [va_rf (G.2.2.2.2.2 a 0), va_rf (G.2.2.2.2.2 a 1), va_rf (G.2.2.2.2.2 a 2)]) := by unfold gE; rw [if_neg (by rw [h]; decide), if_neg (by rw [h]; decide), if_neg (by rw [h]; decide), if_neg (by rw [h]; decide), if_pos h]
theorem gE_6 {cO : ClassId} {G : PG} {a : Nat} (h : G.1 a = 6) : gE cO G a = .inr (6, [va_rf (G.2.2.2.2.2 a 0), .int (nI (G.2.1 a 1)), .int (nI (G.2.1 a 2)), va_rf (G.2.2.2.2.2 a 3), va_rf (G.2.2.2.2.2 a 4), va_rf (G.2.2.2.2.2 a 5), .int (nI (G.2.1 a 6)), .int (nI (G.2.1 a 7)), .int (nI (G.2.1 a 8))]) := by unfold gE; rw [if_neg (by rw [h]; decide), if_neg (by rw [h]; decide), if_neg (by rw [h]; decide), if_neg (by rw [h]; decide), if_neg (by rw [h]; decide), if_pos h]
theorem gE_7 {cO : ClassId} {G : PG} {a : Nat} (h : G.1 a = 7) : gE cO G a = .inr (4, [va_rf (G.2.2.2.2.2 a 0), .int (nI (G.2.1 a 1)), .int (nI (G.2.1 a 2))]) := by unfold gE; rw [if_neg (by rw [h]; decide), if_neg (by rw [h]; decide), if_neg (by rw [h]; decide), if_neg (by rw [h]; decide), if_neg (by rw [h]; decide), if_neg (by rw [h]; decide), if_pos h]
theorem gE_8 {cO : ClassId} {G : PG} {a n : Nat} (h : G.1 a = n + 8) : gE cO G a = .inl (cO, n, .inr (.inr (.inr (.inr (G.2.2.2.2.2 a))))) := by unfold gE; rw [if_neg (by omega), if_neg (by omega), if_neg (by omega), if_neg (by omega), if_neg (by omega), if_neg (by omega), if_neg (by omega), h, Nat.add_sub_cancel]
theorem gE_s {cO : ClassId} {G G' : PG} {b : Nat} (h : gs G G' b) : gE cO G' b = gE cO G b := by obtain ⟨h1, h2, h3, h4, h5, h6⟩ := h; unfold gE; rw [h1, h2, h3, h4, h5, h6]
theorem uE_1_0 {cO : ClassId} {G : PG} {a : Nat} {v : Int64} (h : G.1 a = 1) : va_up (gE cO G) a (.inr (7, [.long v, .long (G.2.2.2.2.1 a 1), .int (oI (G.2.2.1 a 2))])) = gE cO (gJ G a 0 v) := by
  funext b
  by_cases e : b = a
  · subst e; rw [va_up_self, gE_1 (G := gJ G b 0 v) h]; simp [up2]
  · rw [va_up_ne _ _ e, gE_s (gs_J e)]
theorem uE_1_1 {cO : ClassId} {G : PG} {a : Nat} {v : Int64} (h : G.1 a = 1) : va_up (gE cO G) a (.inr (7, [.long (G.2.2.2.2.1 a 0), .long v, .int (oI (G.2.2.1 a 2))])) = gE cO (gJ G a 1 v) := by
  funext b
  by_cases e : b = a
  · subst e; rw [va_up_self, gE_1 (G := gJ G b 1 v) h]; simp [up2]
  · rw [va_up_ne _ _ e, gE_s (gs_J e)]
theorem uE_1_2 {cO : ClassId} {G : PG} {a : Nat} {v : Option Nat} (h : G.1 a = 1) : va_up (gE cO G) a (.inr (7, [.long (G.2.2.2.2.1 a 0), .long (G.2.2.2.2.1 a 1), .int (oI v)])) = gE cO (gO G a 2 v) := by
  funext b
  by_cases e : b = a
  · subst e; rw [va_up_self, gE_1 (G := gO G b 2 v) h]; simp [up2]
  · rw [va_up_ne _ _ e, gE_s (gs_O e)]
theorem nE_1 {cO : ClassId} {G : PG} (a : Nat) : va_up (gE cO G) a (.inr (7, [.long 0, .long 0, .int (nI 0)])) = gE cO (g0 G a 1) := by
  funext b
  by_cases e : b = a
  · subst e; rw [va_up_self, gE_1 (g0_q G b 1)]; unfold g0; simp only [va_up_self]; rfl
  · rw [va_up_ne _ _ e, gE_s (gs_0 e)]
theorem uE_2_0 {cO : ClassId} {G : PG} {a : Nat} {v : Option Nat} (h : G.1 a = 2) : va_up (gE cO G) a (.inr (8, [va_rf v, .int (nI (G.2.1 a 1)), .int (nI (G.2.1 a 2)), .int (oI (G.2.2.1 a 3)), .int (nI (G.2.1 a 4)), .int (nI (G.2.1 a 5)), .int (bI (G.2.2.2.1 a 6))])) = gE cO (gR G a 0 v) := by
  funext b
  by_cases e : b = a
  · subst e; rw [va_up_self, gE_2 (G := gR G b 0 v) h]; simp [up2]
  · rw [va_up_ne _ _ e, gE_s (gs_R e)]
theorem uE_2_1 {cO : ClassId} {G : PG} {a : Nat} {v : Nat} (h : G.1 a = 2) : va_up (gE cO G) a (.inr (8, [va_rf (G.2.2.2.2.2 a 0), .int (nI v), .int (nI (G.2.1 a 2)), .int (oI (G.2.2.1 a 3)), .int (nI (G.2.1 a 4)), .int (nI (G.2.1 a 5)), .int (bI (G.2.2.2.1 a 6))])) = gE cO (gN G a 1 v) := by
  funext b
  by_cases e : b = a
  · subst e; rw [va_up_self, gE_2 (G := gN G b 1 v) h]; simp [up2]
  · rw [va_up_ne _ _ e, gE_s (gs_N e)]
theorem uE_2_2 {cO : ClassId} {G : PG} {a : Nat} {v : Nat} (h : G.1 a = 2) : va_up (gE cO G) a (.inr (8, [va_rf (G.2.2.2.2.2 a 0), .int (nI (G.2.1 a 1)), .int (nI v), .int (oI (G.2.2.1 a 3)), .int (nI (G.2.1 a 4)), .int (nI (G.2.1 a 5)), .int (bI (G.2.2.2.1 a 6))])) = gE cO (gN G a 2 v) := by
  funext b
  by_cases e : b = a
  · subst e; rw [va_up_self, gE_2 (G := gN G b 2 v) h]; simp [up2]
  · rw [va_up_ne _ _ e, gE_s (gs_N e)]
theorem uE_2_3 {cO : ClassId} {G : PG} {a : Nat} {v : Option Nat} (h : G.1 a = 2) : va_up (gE cO G) a (.inr (8, [va_rf (G.2.2.2.2.2 a 0), .int (nI (G.2.1 a 1)), .int (nI (G.2.1 a 2)), .int (oI v), .int (nI (G.2.1 a 4)), .int (nI (G.2.1 a 5)), .int (bI (G.2.2.2.1 a 6))])) = gE cO (gO G a 3 v) := by
  funext b
  by_cases e : b = a
  · subst e; rw [va_up_self, gE_2 (G := gO G b 3 v) h]; simp [up2]
  · rw [va_up_ne _ _ e, gE_s (gs_O e)]
theorem uE_2_4 {cO : ClassId} {G : PG} {a : Nat} {v : Nat} (h : G.1 a = 2) : va_up (gE cO G) a (.inr (8, [va_rf (G.2.2.2.2.2 a 0), .int (nI (G.2.1 a 1)), .int (nI (G.2.1 a 2)), .int (oI (G.2.2.1 a 3)), .int (nI v), .int (nI (G.2.1 a 5)), .int (bI (G.2.2.2.1 a 6))])) = gE cO (gN G a 4 v) := by
  funext b
  by_cases e : b = a
  · subst e; rw [va_up_self, gE_2 (G := gN G b 4 v) h]; simp [up2]
  · rw [va_up_ne _ _ e, gE_s (gs_N e)]
theorem uE_2_5 {cO : ClassId} {G : PG} {a : Nat} {v : Nat} (h : G.1 a = 2) : va_up (gE cO G) a (.inr (8, [va_rf (G.2.2.2.2.2 a 0), .int (nI (G.2.1 a 1)), .int (nI (G.2.1 a 2)), .int (oI (G.2.2.1 a 3)), .int (nI (G.2.1 a 4)), .int (nI v), .int (bI (G.2.2.2.1 a 6))])) = gE cO (gN G a 5 v) := by
  funext b
  by_cases e : b = a
  · subst e; rw [va_up_self, gE_2 (G := gN G b 5 v) h]; simp [up2]
  · rw [va_up_ne _ _ e, gE_s (gs_N e)]
theorem uE_2_6 {cO : ClassId} {G : PG} {a : Nat} {v : Bool} (h : G.1 a = 2) : va_up (gE cO G) a (.inr (8, [va_rf (G.2.2.2.2.2 a 0), .int (nI (G.2.1 a 1)), .int (nI (G.2.1 a 2)), .int (oI (G.2.2.1 a 3)), .int (nI (G.2.1 a 4)), .int (nI (G.2.1 a 5)), .int (bI v)])) = gE cO (gB G a 6 v) := by
  funext b
  by_cases e : b = a
  · subst e; rw [va_up_self, gE_2 (G := gB G b 6 v) h]; simp [up2]
  · rw [va_up_ne _ _ e, gE_s (gs_B e)]
theorem nE_2 {cO : ClassId} {G : PG} (a : Nat) : va_up (gE cO G) a (.inr (8, [.null, .int (nI 0), .int (nI 0), .int (nI 0), .int (nI 0), .int (nI 0), .int (nI 0)])) = gE cO (g0 G a 2) := by
  funext b
  by_cases e : b = a
  · subst e; rw [va_up_self, gE_2 (g0_q G b 2)]; unfold g0; simp only [va_up_self]; rfl
  · rw [va_up_ne _ _ e, gE_s (gs_0 e)]
theorem uE_3_0 {cO : ClassId} {G : PG} {a : Nat} {v : Option Nat} (h : G.1 a = 3) : va_up (gE cO G) a (.inr (11, [va_rf v, .int (oI (G.2.2.1 a 1)), .int (oI (G.2.2.1 a 2)), .int (nI (G.2.1 a 3)), .int (nI (G.2.1 a 4))])) = gE cO (gR G a 0 v) := by
  funext b
  by_cases e : b = a
  · subst e; rw [va_up_self, gE_3 (G := gR G b 0 v) h]; simp [up2]
  · rw [va_up_ne _ _ e, gE_s (gs_R e)]
theorem uE_3_1 {cO : ClassId} {G : PG} {a : Nat} {v : Option Nat} (h : G.1 a = 3) : va_up (gE cO G) a (.inr (11, [va_rf (G.2.2.2.2.2 a 0), .int (oI v), .int (oI (G.2.2.1 a 2)), .int (nI (G.2.1 a 3)), .int (nI (G.2.1 a 4))])) = gE cO (gO G a 1 v) := by
  funext b
  by_cases e : b = a
  · subst e; rw [va_up_self, gE_3 (G := gO G b 1 v) h]; simp [up2]
  · rw [va_up_ne _ _ e, gE_s (gs_O e)]
theorem uE_3_2 {cO : ClassId} {G : PG} {a : Nat} {v : Option Nat} (h : G.1 a = 3) : va_up (gE cO G) a (.inr (11, [va_rf (G.2.2.2.2.2 a 0), .int (oI (G.2.2.1 a 1)), .int (oI v), .int (nI (G.2.1 a 3)), .int (nI (G.2.1 a 4))])) = gE cO (gO G a 2 v) := by
  funext b
  by_cases e : b = a
  · subst e; rw [va_up_self, gE_3 (G := gO G b 2 v) h]; simp [up2]
  · rw [va_up_ne _ _ e, gE_s (gs_O e)]
theorem uE_3_3 {cO : ClassId} {G : PG} {a : Nat} {v : Nat} (h : G.1 a = 3) : va_up (gE cO G) a (.inr (11, [va_rf (G.2.2.2.2.2 a 0), .int (oI (G.2.2.1 a 1)), .int (oI (G.2.2.1 a 2)), .int (nI v), .int (nI (G.2.1 a 4))])) = gE cO (gN G a 3 v) := by
  funext b
  by_cases e : b = a
  · subst e; rw [va_up_self, gE_3 (G := gN G b 3 v) h]; simp [up2]
  · rw [va_up_ne _ _ e, gE_s (gs_N e)]
theorem uE_3_4 {cO : ClassId} {G : PG} {a : Nat} {v : Nat} (h : G.1 a = 3) : va_up (gE cO G) a (.inr (11, [va_rf (G.2.2.2.2.2 a 0), .int (oI (G.2.2.1 a 1)), .int (oI (G.2.2.1 a 2)), .int (nI (G.2.1 a 3)), .int (nI v)])) = gE cO (gN G a 4 v) := by
  funext b
  by_cases e : b = a
  · subst e; rw [va_up_self, gE_3 (G := gN G b 4 v) h]; simp [up2]
  · rw [va_up_ne _ _ e, gE_s (gs_N e)]
theorem nE_3 {cO : ClassId} {G : PG} (a : Nat) : va_up (gE cO G) a (.inr (11, [.null, .int (nI 0), .int (nI 0), .int (nI 0), .int (nI 0)])) = gE cO (g0 G a 3) := by
  funext b
  by_cases e : b = a
  · subst e; rw [va_up_self, gE_3 (g0_q G b 3)]; unfold g0; simp only [va_up_self]; rfl
  · rw [va_up_ne _ _ e, gE_s (gs_0 e)]
theorem uE_4_0 {cO : ClassId} {G : PG} {a : Nat} {v : Option Nat} (h : G.1 a = 4) : va_up (gE cO G) a (.inr (12, [va_rf v, va_rf (G.2.2.2.2.2 a 1), va_rf (G.2.2.2.2.2 a 2), va_rf (G.2.2.2.2.2 a 3)])) = gE cO (gR G a 0 v) := by
  funext b
  by_cases e : b = a
  · subst e; rw [va_up_self, gE_4 (G := gR G b 0 v) h]; simp [up2]
  · rw [va_up_ne _ _ e, gE_s (gs_R e)]
theorem uE_4_1 {cO : ClassId} {G : PG} {a : Nat} {v : Option Nat} (h : G.1 a = 4) : va_up (gE cO G) a (.inr (12, [va_rf (G.2.2.2.2.2 a 0), va_rf v, va_rf (G.2.2.2.2.2 a 2), va_rf (G.2.2.2.2.2 a 3)])) = gE cO (gR G a 1 v) := by
  funext b
  by_cases e : b = a
  · subst e; rw [va_up_self, gE_4 (G := gR G b 1 v) h]; simp [up2]
  · rw [va_up_ne _ _ e, gE_s (gs_R e)]
theorem uE_4_2 {cO : ClassId} {G : PG} {a : Nat} {v : Option Nat} (h : G.1 a = 4) : va_up (gE cO G) a (.inr (12, [va_rf (G.2.2.2.2.2 a 0), va_rf (G.2.2.2.2.2 a 1), va_rf v, va_rf (G.2.2.2.2.2 a 3)])) = gE cO (gR G a 2 v) := by
  funext b
  by_cases e : b = a
  · subst e; rw [va_up_self, gE_4 (G := gR G b 2 v) h]; simp [up2]
  · rw [va_up_ne _ _ e, gE_s (gs_R e)]
theorem uE_4_3 {cO : ClassId} {G : PG} {a : Nat} {v : Option Nat} (h : G.1 a = 4) : va_up (gE cO G) a (.inr (12, [va_rf (G.2.2.2.2.2 a 0), va_rf (G.2.2.2.2.2 a 1), va_rf (G.2.2.2.2.2 a 2), va_rf v])) = gE cO (gR G a 3 v) := by
  funext b
  by_cases e : b = a
  · subst e; rw [va_up_self, gE_4 (G := gR G b 3 v) h]; simp [up2]
  · rw [va_up_ne _ _ e, gE_s (gs_R e)]
theorem nE_4 {cO : ClassId} {G : PG} (a : Nat) : va_up (gE cO G) a (.inr (12, [.null, .null, .null, .null])) = gE cO (g0 G a 4) := by
  funext b
  by_cases e : b = a
  · subst e; rw [va_up_self, gE_4 (g0_q G b 4)]; unfold g0; simp only [va_up_self]; rfl
  · rw [va_up_ne _ _ e, gE_s (gs_0 e)]
theorem uE_5_0 {cO : ClassId} {G : PG} {a : Nat} {v : Option Nat} (h : G.1 a = 5) : va_up (gE cO G) a (.inr (10, [va_rf v, va_rf (G.2.2.2.2.2 a 1), va_rf (G.2.2.2.2.2 a 2)])) = gE cO (gR G a 0 v) := by
  funext b
  by_cases e : b = a
  · subst e; rw [va_up_self, gE_5 (G := gR G b 0 v) h]; simp [up2]
  · rw [va_up_ne _ _ e, gE_s (gs_R e)]
theorem uE_5_1 {cO : ClassId} {G : PG} {a : Nat} {v : Option Nat} (h : G.1 a = 5) : va_up (gE cO G) a (.inr (10, [va_rf (G.2.2.2.2.2 a 0), va_rf v, va_rf (G.2.2.2.2.2 a 2)])) = gE cO (gR G a 1 v) := by
  funext b
  by_cases e : b = a
  · subst e; rw [va_up_self, gE_5 (G := gR G b 1 v) h]; simp [up2]
  · rw [va_up_ne _ _ e, gE_s (gs_R e)]
theorem uE_5_2 {cO : ClassId} {G : PG} {a : Nat} {v : Option Nat} (h : G.1 a = 5) : va_up (gE cO G) a (.inr (10, [va_rf (G.2.2.2.2.2 a 0), va_rf (G.2.2.2.2.2 a 1), va_rf v])) = gE cO (gR G a 2 v) := by
  funext b
  by_cases e : b = a
  · subst e; rw [va_up_self, gE_5 (G := gR G b 2 v) h]; simp [up2]
  · rw [va_up_ne _ _ e, gE_s (gs_R e)]
theorem nE_5 {cO : ClassId} {G : PG} (a : Nat) : va_up (gE cO G) a (.inr (10, [.null, .null, .null])) = gE cO (g0 G a 5) := by
  funext b
  by_cases e : b = a
  · subst e; rw [va_up_self, gE_5 (g0_q G b 5)]; unfold g0; simp only [va_up_self]; rfl
  · rw [va_up_ne _ _ e, gE_s (gs_0 e)]
theorem uE_6_0 {cO : ClassId} {G : PG} {a : Nat} {v : Option Nat} (h : G.1 a = 6) : va_up (gE cO G) a (.inr (6, [va_rf v, .int (nI (G.2.1 a 1)), .int (nI (G.2.1 a 2)), va_rf (G.2.2.2.2.2 a 3), va_rf (G.2.2.2.2.2 a 4), va_rf (G.2.2.2.2.2 a 5), .int (nI (G.2.1 a 6)), .int (nI (G.2.1 a 7)), .int (nI (G.2.1 a 8))])) = gE cO (gR G a 0 v) := by
  funext b
  by_cases e : b = a
  · subst e; rw [va_up_self, gE_6 (G := gR G b 0 v) h]; simp [up2]
  · rw [va_up_ne _ _ e, gE_s (gs_R e)]
theorem uE_6_1 {cO : ClassId} {G : PG} {a : Nat} {v : Nat} (h : G.1 a = 6) : va_up (gE cO G) a (.inr (6, [va_rf (G.2.2.2.2.2 a 0), .int (nI v), .int (nI (G.2.1 a 2)), va_rf (G.2.2.2.2.2 a 3), va_rf (G.2.2.2.2.2 a 4), va_rf (G.2.2.2.2.2 a 5), .int (nI (G.2.1 a 6)), .int (nI (G.2.1 a 7)), .int (nI (G.2.1 a 8))])) = gE cO (gN G a 1 v) := by
  funext b
  by_cases e : b = a
  · subst e; rw [va_up_self, gE_6 (G := gN G b 1 v) h]; simp [up2]
  · rw [va_up_ne _ _ e, gE_s (gs_N e)]
theorem uE_6_2 {cO : ClassId} {G : PG} {a : Nat} {v : Nat} (h : G.1 a = 6) : va_up (gE cO G) a (.inr (6, [va_rf (G.2.2.2.2.2 a 0), .int (nI (G.2.1 a 1)), .int (nI v), va_rf (G.2.2.2.2.2 a 3), va_rf (G.2.2.2.2.2 a 4), va_rf (G.2.2.2.2.2 a 5), .int (nI (G.2.1 a 6)), .int (nI (G.2.1 a 7)), .int (nI (G.2.1 a 8))])) = gE cO (gN G a 2 v) := by
  funext b
  by_cases e : b = a
  · subst e; rw [va_up_self, gE_6 (G := gN G b 2 v) h]; simp [up2]
  · rw [va_up_ne _ _ e, gE_s (gs_N e)]
theorem uE_6_3 {cO : ClassId} {G : PG} {a : Nat} {v : Option Nat} (h : G.1 a = 6) : va_up (gE cO G) a (.inr (6, [va_rf (G.2.2.2.2.2 a 0), .int (nI (G.2.1 a 1)), .int (nI (G.2.1 a 2)), va_rf v, va_rf (G.2.2.2.2.2 a 4), va_rf (G.2.2.2.2.2 a 5), .int (nI (G.2.1 a 6)), .int (nI (G.2.1 a 7)), .int (nI (G.2.1 a 8))])) = gE cO (gR G a 3 v) := by
  funext b
  by_cases e : b = a
  · subst e; rw [va_up_self, gE_6 (G := gR G b 3 v) h]; simp [up2]
  · rw [va_up_ne _ _ e, gE_s (gs_R e)]
theorem uE_6_4 {cO : ClassId} {G : PG} {a : Nat} {v : Option Nat} (h : G.1 a = 6) : va_up (gE cO G) a (.inr (6, [va_rf (G.2.2.2.2.2 a 0), .int (nI (G.2.1 a 1)), .int (nI (G.2.1 a 2)), va_rf (G.2.2.2.2.2 a 3), va_rf v, va_rf (G.2.2.2.2.2 a 5), .int (nI (G.2.1 a 6)), .int (nI (G.2.1 a 7)), .int (nI (G.2.1 a 8))])) = gE cO (gR G a 4 v) := by
  funext b
  by_cases e : b = a
  · subst e; rw [va_up_self, gE_6 (G := gR G b 4 v) h]; simp [up2]
  · rw [va_up_ne _ _ e, gE_s (gs_R e)]
theorem uE_6_5 {cO : ClassId} {G : PG} {a : Nat} {v : Option Nat} (h : G.1 a = 6) : va_up (gE cO G) a (.inr (6, [va_rf (G.2.2.2.2.2 a 0), .int (nI (G.2.1 a 1)), .int (nI (G.2.1 a 2)), va_rf (G.2.2.2.2.2 a 3), va_rf (G.2.2.2.2.2 a 4), va_rf v, .int (nI (G.2.1 a 6)), .int (nI (G.2.1 a 7)), .int (nI (G.2.1 a 8))])) = gE cO (gR G a 5 v) := by
  funext b
  by_cases e : b = a
  · subst e; rw [va_up_self, gE_6 (G := gR G b 5 v) h]; simp [up2]
  · rw [va_up_ne _ _ e, gE_s (gs_R e)]
theorem uE_6_6 {cO : ClassId} {G : PG} {a : Nat} {v : Nat} (h : G.1 a = 6) : va_up (gE cO G) a (.inr (6, [va_rf (G.2.2.2.2.2 a 0), .int (nI (G.2.1 a 1)), .int (nI (G.2.1 a 2)), va_rf (G.2.2.2.2.2 a 3), va_rf (G.2.2.2.2.2 a 4), va_rf (G.2.2.2.2.2 a 5), .int (nI v), .int (nI (G.2.1 a 7)), .int (nI (G.2.1 a 8))])) = gE cO (gN G a 6 v) := by
  funext b
  by_cases e : b = a
  · subst e; rw [va_up_self, gE_6 (G := gN G b 6 v) h]; simp [up2]
  · rw [va_up_ne _ _ e, gE_s (gs_N e)]
theorem uE_6_7 {cO : ClassId} {G : PG} {a : Nat} {v : Nat} (h : G.1 a = 6) : va_up (gE cO G) a (.inr (6, [va_rf (G.2.2.2.2.2 a 0), .int (nI (G.2.1 a 1)), .int (nI (G.2.1 a 2)), va_rf (G.2.2.2.2.2 a 3), va_rf (G.2.2.2.2.2 a 4), va_rf (G.2.2.2.2.2 a 5), .int (nI (G.2.1 a 6)), .int (nI v), .int (nI (G.2.1 a 8))])) = gE cO (gN G a 7 v) := by
  funext b
  by_cases e : b = a
  · subst e; rw [va_up_self, gE_6 (G := gN G b 7 v) h]; simp [up2]
  · rw [va_up_ne _ _ e, gE_s (gs_N e)]
theorem uE_6_8 {cO : ClassId} {G : PG} {a : Nat} {v : Nat} (h : G.1 a = 6) : va_up (gE cO G) a (.inr (6, [va_rf (G.2.2.2.2.2 a 0), .int (nI (G.2.1 a 1)), .int (nI (G.2.1 a 2)), va_rf (G.2.2.2.2.2 a 3), va_rf (G.2.2.2.2.2 a 4), va_rf (G.2.2.2.2.2 a 5), .int (nI (G.2.1 a 6)), .int (nI (G.2.1 a 7)), .int (nI v)])) = gE cO (gN G a 8 v) := by
  funext b
  by_cases e : b = a
  · subst e; rw [va_up_self, gE_6 (G := gN G b 8 v) h]; simp [up2]
  · rw [va_up_ne _ _ e, gE_s (gs_N e)]
theorem nE_6 {cO : ClassId} {G : PG} (a : Nat) : va_up (gE cO G) a (.inr (6, [.null, .int (nI 0), .int (nI 0), .null, .null, .null, .int (nI 0), .int (nI 0), .int (nI 0)])) = gE cO (g0 G a 6) := by
  funext b
  by_cases e : b = a
  · subst e; rw [va_up_self, gE_6 (g0_q G b 6)]; unfold g0; simp only [va_up_self]; rfl
  · rw [va_up_ne _ _ e, gE_s (gs_0 e)]
theorem uE_7_0 {cO : ClassId} {G : PG} {a : Nat} {v : Option Nat} (h : G.1 a = 7) : va_up (gE cO G) a (.inr (4, [va_rf v, .int (nI (G.2.1 a 1)), .int (nI (G.2.1 a 2))])) = gE cO (gR G a 0 v) := by
  funext b
  by_cases e : b = a
  · subst e; rw [va_up_self, gE_7 (G := gR G b 0 v) h]; simp [up2]
  · rw [va_up_ne _ _ e, gE_s (gs_R e)]
theorem uE_7_1 {cO : ClassId} {G : PG} {a : Nat} {v : Nat} (h : G.1 a = 7) : va_up (gE cO G) a (.inr (4, [va_rf (G.2.2.2.2.2 a 0), .int (nI v), .int (nI (G.2.1 a 2))])) = gE cO (gN G a 1 v) := by
  funext b
  by_cases e : b = a
  · subst e; rw [va_up_self, gE_7 (G := gN G b 1 v) h]; simp [up2]
  · rw [va_up_ne _ _ e, gE_s (gs_N e)]
theorem uE_7_2 {cO : ClassId} {G : PG} {a : Nat} {v : Nat} (h : G.1 a = 7) : va_up (gE cO G) a (.inr (4, [va_rf (G.2.2.2.2.2 a 0), .int (nI (G.2.1 a 1)), .int (nI v)])) = gE cO (gN G a 2 v) := by
  funext b
  by_cases e : b = a
  · subst e; rw [va_up_self, gE_7 (G := gN G b 2 v) h]; simp [up2]
  · rw [va_up_ne _ _ e, gE_s (gs_N e)]
theorem nE_7 {cO : ClassId} {G : PG} (a : Nat) : va_up (gE cO G) a (.inr (4, [.null, .int (nI 0), .int (nI 0)])) = gE cO (g0 G a 7) := by
  funext b
  by_cases e : b = a
  · subst e; rw [va_up_self, gE_7 (g0_q G b 7)]; unfold g0; simp only [va_up_self]; rfl
  · rw [va_up_ne _ _ e, gE_s (gs_0 e)]
theorem uE_8 {cO : ClassId} {G : PG} {a n i : Nat} {v : Option Nat} (h : G.1 a = n + 8) : va_up (gE cO G) a (.inl (cO, n, .inr (.inr (.inr (.inr (va_up (G.2.2.2.2.2 a) i v)))))) = gE cO (gR G a i v) := by
  funext b
  by_cases e : b = a
  · subst e; rw [va_up_self, gE_8 (G := gR G b i v) h]; show _ = Sum.inl (cO, n, Sum.inr (Sum.inr (Sum.inr (Sum.inr (up2 G.2.2.2.2.2 b i v b))))); rw [up2_x]
  · rw [va_up_ne _ _ e, gE_s (gs_R e)]
theorem nE_8 {cO : ClassId} {G : PG} (a n : Nat) : va_up (gE cO G) a (.inl (cO, n, .inr (.inr (.inr (.inr (fun _ => none)))))) = gE cO (g0 G a (n + 8)) := by
  funext b
  by_cases e : b = a
  · subst e; rw [va_up_self, gE_8 (g0_q G b (n + 8))]; unfold g0; simp only [va_up_self]
  · rw [va_up_ne _ _ e, gE_s (gs_0 e)]
/-! Worlds with a pool behind the fixed cells X -/
def va_Nn (x : MethodName) (U : State) : Prop := (Cond.native x).before #[] U = true
theorem va_Nn.use {x : MethodName} {A : Array Value} {U : State} (h : va_Nn x U) : (Cond.native x).before A U = true := va_any rfl h
theorem va_Nn.moved {x : MethodName} {u U : State} (hvm : u.vm.Alike U.vm) (h : va_Nn x u) : va_Nn x U := by
  have h1 : (Cond.native x).before #[] (u.setVm U.vm) = true := by
    rw [Cond.native_setVm hvm]
    exact h
  have e := Cond.onTables_vm (A := #[]) (A' := #[]) (U := u) (U' := U) U.vm (Cond.native x) rfl
  have hU : U.setVm U.vm = U := rfl
  rw [hU] at e
  unfold va_Nn
  rw [← e]
  exact h1
def gcN : MethodName := ⟨"java/lang/Object", "getClass", "()Ljava/lang/Class;"⟩
/-- what the start says of the lists' first array, and of what the lists call; carried by every contract with the pool -/
def stE (A : Nat → Prop) (t : Nat) (U : State) : Prop := va_Z "java/util/ArrayList" "DEFAULTCAPACITY_EMPTY_ELEMENTDATA" "[Ljava/lang/Object;" (.ref t) A U U.heap ∧ va_T (.object "java/lang/Object") t 0 (fun _ => .null) A U U.heap ∧ va_Dc U ∧ va_Nn gcN U ∧ va_Nn arraycopyName U
theorem stE.moved {A A' : Nat → Prop} {t : Nat} {s U : State} {H : Heap} {locs : List Loc} (h : stE A t s) (hS : va_S A s.heap H locs) (hU : U.heap = H) (hW : s.WarmedH U.vm) (hAB : ∀ q, A' q → A q) : stE A' t U := by
  subst hU
  have hk : ∀ a : Nat, a < s.heap.size → ¬ A a → U.heap[a]? = s.heap[a]? := hS.2.1
  exact ⟨((h.1.kept hk).moved hW.alike).narrow hAB, ((h.2.1.kept hk).moved hW.alike).narrow hAB, h.2.2.1.moved hW.alike, h.2.2.2.1.moved hW.alike, h.2.2.2.2.moved hW.alike⟩
theorem stE.calling {A : Nat → Prop} {t : Nat} {U : State} {g : JFrame} {mk : MethodId} {a : Array Value} (h : stE A t U) : stE A t (U.calling g mk a) := by
  have hv : U.vm.Alike (U.calling g mk a).vm := Vm.Alike.refl U.vm
  exact ⟨h.1.moved hv, h.2.1.moved hv, h.2.2.1.moved hv, h.2.2.2.1.moved hv, h.2.2.2.2.moved hv⟩
abbrev wB2 (D : va_G) (cl : List vw_C) (tys : List (ClassId × FieldType)) (sz t : Nat) (ws : va_W) (U : State) : Prop := (U.heap.size = sz ∧ va_P D cl ws U.heap ∧ va_K D cl tys U ∧ va_D (fun _ => True) ws ∧ stF (va_A ws sz) U) ∧ stE (va_A ws sz) t U
theorem wd_blind {av : List Value} {D : va_G} {cl : List vw_C} {tys : List (ClassId × FieldType)} {sz t : Nat} {ws : va_W} : FrameBlind (va_Pc av (wB2 D cl tys sz t ws)) := fun a U g mk q => by
  obtain ⟨q0, ⟨q1, qP, qK, qD, qF⟩, qE⟩ := q
  exact ⟨q0, ⟨q1, qP, va_K.moved (u := U) (U := U.calling g mk a) (Vm.Alike.refl U.vm) qK, qD, qF.calling⟩, qE.calling⟩
theorem wd_preS {s : State} {H : Heap} {locs : List Loc} {av : List Value} {t : Nat} {A : Nat → Prop} {D : va_G} {cl : List vw_C} {tys : List (ClassId × FieldType)} {X cx pl : va_W} (hK : va_K D cl tys s) (hP : va_P D cl (X ++ pl) H) (hD : va_D A (X ++ pl)) (hS : va_S A s.heap H locs) (hA : ∀ q, s.heap.size ≤ q → A q) (hF : stF A s) (hE : stE A t s) (isC : List Nat) (hn : va_nd isC = true) (hC : isC.map (fun i => X[i]?) = cx.map some) : PreS s H (va_Pc av (wB2 D cl tys H.size t (cx ++ pl))) av :=
  ⟨wd_blind, fun U hU hW => ⟨rfl, ⟨by rw [hU], by rw [hU]; exact hP.part isC hC, va_K.moved hW.alike hK, (hD.part isC hn hC).weaken (fun _ _ _ _ => trivial), hF.moved hS hU hW (va_freeP (cx := cx) hD hS hA isC hC)⟩, hE.moved hS hU hW (va_freeP (cx := cx) hD hS hA isC hC)⟩⟩
theorem wd_preV {s : State} {H : Heap} {locs : List Loc} {As : List Value} {b ci t : Nat} {r : vw_C} {fs : List Value} {A : Nat → Prop} {D : va_G} {cl : List vw_C} {tys : List (ClassId × FieldType)} {X cx pl : va_W} (hK : va_K D cl tys s) (hP : va_P D cl (X ++ pl) H) (hD : va_D A (X ++ pl)) (hS : va_S A s.heap H locs) (hA : ∀ q, s.heap.size ≤ q → A q) (hF : stF A s) (hE : stE A t s) (isC : List Nat) (hn : va_nd isC = true) (hC : isC.map (fun i => X[i]?) = cx.map some) (hc : cl[ci]? = some r) (hb : ∃ k0 : Nat, (X ++ pl)[k0]? = some (b, .inr (ci, fs))) : PreV s H r.1 b (va_Pc (.ref b :: As) (wB2 D cl tys H.size t (cx ++ pl))) As := by
  obtain ⟨k0, hb⟩ := hb
  exact ⟨wd_blind, va_recv hK hP hc hb, fun U hU hW => ⟨rfl, ⟨by rw [hU], by rw [hU]; exact hP.part isC hC, va_K.moved hW.alike hK, (hD.part isC hn hC).weaken (fun _ _ _ _ => trivial), hF.moved hS hU hW (va_freeP (cx := cx) hD hS hA isC hC)⟩, hE.moved hS hU hW (va_freeP (cx := cx) hD hS hA isC hC)⟩⟩
theorem pq_at {X : va_W} {L : List Nat} {f : Nat → va_E} {a : Nat} {e : va_E} (hm : a ∈ L) (hf : f a = e) : ∃ k0 : Nat, (X ++ va_pl L f)[k0]? = some (a, e) := by
  obtain ⟨k, hk⟩ := va_pl_get (X := X) (f := f) hm
  exact ⟨k, by rw [hk, hf]⟩
section PL
variable {p : Program} {l : Launch} {e : Env} {R : Room} {s : State} {m : MethodId} {args : Array Value} {below : List Frame} {meth : Method} {c : Code} {H : Heap} {locs : List Loc} {cells slots : Nat} {Q : State → Prop}
variable {cc : ByteArray} {pc : Nat} {ls : Array Slot} {rest st0 : List Value} {av : Array Value} {D : va_G} {cl : List vw_C} {A A0 : Nat → Prop} {a mc ms : Nat} {tys : List (ClassId × FieldType)} {X cx wr pl : va_W} {H0 : Heap} {L : List Nat} {f f' : Nat → va_E}
theorem pq_get (hexec : p.tables.exec = Jvm.exec) (hb : c.code = cc) {own ref C : String} {T : u_T} {N ci index : Nat} {Ts : List Cond} (hts : ∀ w ∈ Ts, w.before args s = true) (hin : ∀ w ∈ u_ws C T N, w ∈ Ts) (hown : s.vm.findClass own = some m.cls) (hK : va_K D cl tys s) (hP : va_P D cl (X ++ va_pl L f) H) (hm : a ∈ L) {fs : List Value} (hf : f a = .inr (ci, fs)) (hc : cl[ci]? = some (C, T, N)) (k : Nat) (hk : k < N) (hlink : (Cond.fieldLink own index ref (T k).2.1 (T k).2.2.1).before args s = true) (hsame : ∀ x, s.fieldFound? (T k).1 (T k).2.1 (T k).2.2.1 = some x → s.fieldFound? ref (T k).2.1 (T k).2.2.1 = some x) {v : Value} (hv : fs[k]? = some v) (hdg : decode cc pc = .ok (.getfield index, 3))
    (kk : W p l e R s m args below meth c H locs cells slots Q (F0 m (pc + 3) ls (v :: rest))) : W p l e R s m args below meth c H locs cells slots Q (F0 m (pc) ls (.ref a :: rest)) := by
  obtain ⟨q, hq⟩ := pq_at (X := X) hm hf
  exact va_get hexec hb hts hin hown hK hP q hq hc k hk hlink hsame hv hdg kk
theorem pq_put (hexec : p.tables.exec = Jvm.exec) (hb : c.code = cc) {own ref C : String} {T : u_T} {N ci index : Nat} {Ts : List Cond} (hts : ∀ w ∈ Ts, w.before args s = true) (hin : ∀ w ∈ u_ws C T N, w ∈ Ts) (ty0 : Nat → FieldType) (hty : ∀ k, k < N → parseFieldDescriptor (T k).2.2.1 = some (ty0 k)) (hnm : ∀ a, a < N → ∀ b, b < N → a ≠ b → (T a).2.1 ≠ (T b).2.1) (hown : s.vm.findClass own = some m.cls) (hK : va_K D cl tys s) (hP : va_P D cl (X ++ va_pl L f) H) (hD : va_D A (X ++ va_pl L f)) (hS : va_S A H0 H locs) (hm : a ∈ L) {fs : List Value} (hf : f a = .inr (ci, fs)) (hc : cl[ci]? = some (C, T, N)) (k : Nat) (hk : k < N) (hlink : (Cond.fieldLink own index ref (T k).2.1 (T k).2.2.1).before args s = true) (hsame : ∀ x, s.fieldFound? (T k).1 (T k).2.1 (T k).2.2.1 = some x → s.fieldFound? ref (T k).2.1 (T k).2.2.1 = some x) (hfin : (T k).2.2.2 = false) {ty : FieldType} {v : Value} (hd : parseFieldDescriptor (T k).2.2.1 = some ty) (hn : narrow ty v = v) (hfit : fits ty v = true) (hl : k < fs.length) (hu : va_up f a (.inr (ci, fs.set k v)) = f')
    (hdg : decode cc pc = .ok (.putfield index, 3)) (kk : ∀ (H1 : Heap) (locs1 : List Loc), va_P D cl (X ++ va_pl L f') H1 → va_D A (X ++ va_pl L f') → va_S A H0 H1 locs1 → W p l e R s m args below meth c H1 locs1 cells slots Q (F0 m (pc + 3) ls (rest))) : W p l e R s m args below meth c H locs cells slots Q (F0 m (pc) ls (v :: .ref a :: rest)) := by
  obtain ⟨q, hq⟩ := va_pl_get (X := X) (f := f) hm
  have hq2 := hq
  rw [hf] at hq2
  refine va_put hexec hb hts hin ty0 hty hnm hown hK hP hD hS q hq2 hc k hk hlink hsame hfin hd hn hfit hl hdg (fun H1 locs1 h1 h2 h3 => ?_)
  rw [va_pl_set hD hm hq, hu] at h1 h2
  exact kk H1 locs1 h1 h2 h3
theorem pq_putF (hexec : p.tables.exec = Jvm.exec) (hb : c.code = cc) {own ref C : String} {T : u_T} {N ci index : Nat} {Ts : List Cond} (hts : ∀ w ∈ Ts, w.before args s = true) (hin : ∀ w ∈ u_ws C T N, w ∈ Ts) (ty0 : Nat → FieldType) (hty : ∀ k, k < N → parseFieldDescriptor (T k).2.2.1 = some (ty0 k)) (hnm : ∀ a, a < N → ∀ b, b < N → a ≠ b → (T a).2.1 ≠ (T b).2.1) (hown : s.vm.findClass own = some m.cls) (hK : va_K D cl tys s) (hP : va_P D cl (X ++ va_pl L f) H) (hD : va_D A (X ++ va_pl L f)) (hS : va_S A H0 H locs) (hm : a ∈ L) {fs : List Value} (hf : f a = .inr (ci, fs)) (hc : cl[ci]? = some (C, T, N)) (k : Nat) (hk : k < N) (hlink : (Cond.fieldLink own index ref (T k).2.1 (T k).2.2.1).before args s = true) (hsame : ∀ x, s.fieldFound? (T k).1 (T k).2.1 (T k).2.2.1 = some x → s.fieldFound? ref (T k).2.1 (T k).2.2.1 = some x) (hfin : (T k).2.2.2 = true) (hin2 : meth.name = "<init>") (hdecl : (T k).1 = own) {ty : FieldType} {v : Value} (hd : parseFieldDescriptor (T k).2.2.1 = some ty) (hn : narrow ty v = v) (hfit : fits ty v = true) (hl : k < fs.length) (hu : va_up f a (.inr (ci, fs.set k v)) = f')
    (hdg : decode cc pc = .ok (.putfield index, 3)) (kk : ∀ (H1 : Heap) (locs1 : List Loc), va_P D cl (X ++ va_pl L f') H1 → va_D A (X ++ va_pl L f') → va_S A H0 H1 locs1 → W p l e R s m args below meth c H1 locs1 cells slots Q (F0 m (pc + 3) ls (rest))) : W p l e R s m args below meth c H locs cells slots Q (F0 m (pc) ls (v :: .ref a :: rest)) := by
  obtain ⟨q, hq⟩ := va_pl_get (X := X) (f := f) hm
  have hq2 := hq
  rw [hf] at hq2
  refine va_putF hexec hb hts hin ty0 hty hnm hown hK hP hD hS q hq2 hc k hk hlink hsame hfin hin2 hdecl hd hn hfit hl hdg (fun H1 locs1 h1 h2 h3 => ?_)
  rw [va_pl_set hD hm hq, hu] at h1 h2
  exact kk H1 locs1 h1 h2 h3
theorem pq_new (hexec : p.tables.exec = Jvm.exec) (hb : c.code = cc) {own C : String} {T : u_T} {N ci index : Nat} {Ts : List Cond} (hts : ∀ w ∈ Ts, w.before args s = true) (hin : ∀ w ∈ u_ws C T N, w ∈ Ts) (ty : Nat → FieldType) (hty : ∀ k, k < N → parseFieldDescriptor (T k).2.2.1 = some (ty k)) (hown : s.vm.findClass own = some m.cls) (hcl : (Cond.classLink own index C).before args s = true) (hinst : (Cond.instantiable C N).before args s = true) (hini : (Cond.initialized C).before args s = true)
    (hK : va_K D cl tys s) (hP : va_P D cl (X ++ va_pl L f) H) (hD : va_D A (X ++ va_pl L f)) (hS : va_S A H0 H locs) (hA : ∀ q, H0.size ≤ q → A q) (hc : cl[ci]? = some (C, T, N)) {fs : List Value} (hfs : ∀ j, j < N → defaultValue (ty j) = vp_V fs j) (hcells : cells + 1 ≤ R.cells) (hslots : slots + N ≤ R.slots) {fn : Nat → Nat → va_E} (hu : ∀ q, va_up f q (.inr (ci, fs)) = fn q) (hdg : decode cc pc = .ok (.new index, 3))
    (kk : ∀ (q : Nat) (H1 : Heap), q ∉ L → va_P D cl (X ++ va_pl (L ++ [q]) (fn q)) H1 → va_D A (X ++ va_pl (L ++ [q]) (fn q)) → va_S A H0 H1 locs → W p l e R s m args below meth c H1 locs (cells + 1) (slots + N) Q (F0 m (pc + 3) ls (.ref q :: rest))) : W p l e R s m args below meth c H locs cells slots Q (F0 m (pc) ls (rest)) := by
  refine va_new hexec hb hts hin ty hty hown hcl hinst hini hK hP hD hS hA hc hfs hcells hslots hdg (fun q H1 h1 h2 h3 => ?_)
  have hq := va_pl_fresh2 h2
  rw [List.append_assoc, va_pl_push hq, hu] at h1 h2
  exact kk q H1 hq h1 h2 h3
theorem pq_newq (hexec : p.tables.exec = Jvm.exec) (hb : c.code = cc) {own C : String} {index : Nat} (hown : s.vm.findClass own = some m.cls) (hclink : (Cond.classLink own index C).before args s = true) (hover : va_AO C s) (hK : va_K D cl tys s) (hP : va_P D cl (X ++ va_pl L f) H) (hD : va_D A (X ++ va_pl L f)) (hS : va_S A H0 H locs) (hA : ∀ q, H0.size ≤ q → A q)
    {cO : ClassId} {t0 : Nat} (ht : tys[t0]? = some (cO, .object C)) {n : Nat} (hn : n < 2 ^ 27) (hcells : cells + 1 ≤ R.cells) (hslots : slots + n ≤ R.slots) {fn : Nat → Nat → va_E} (hu : ∀ q, va_up f q (.inl (cO, n, .inr (.inr (.inr (.inr (fun _ => none)))))) = fn q) (hdg : decode cc pc = .ok (.anewarray index, 3))
    (kk : ∀ (q : Nat) (H1 : Heap), q ∉ L → va_P D cl (X ++ va_pl (L ++ [q]) (fn q)) H1 → va_D A (X ++ va_pl (L ++ [q]) (fn q)) → va_S A H0 H1 locs → W p l e R s m args below meth c H1 locs (cells + 1) (slots + n) Q (F0 m (pc + 3) ls (.ref q :: rest))) : W p l e R s m args below meth c H locs cells slots Q (F0 m (pc) ls (.int (nI n) :: rest)) := by
  refine va_newq (N' := n) hexec hb hown hclink hover hK hP hD hS hA (nI_pos (by omega)) (nI_clamp (by omega)) (by omega) hcells hslots hdg (fun q cA H1 hK9 h1 h2 h3 => ?_)
  have hc : cA = cO := ty_eq hK9 (k := t0) ht (fun c h9 => by obtain ⟨_, _, _, _, _, h4⟩ := h9; exact h4)
  subst hc
  have hq := va_pl_fresh2 h2
  rw [List.append_assoc, va_pl_push hq, hu] at h1 h2
  exact kk q H1 hq h1 h2 h3
theorem pq_alen (hexec : p.tables.exec = Jvm.exec) (hb : c.code = cc) (hK : va_K D cl tys s) (hP : va_P D cl (X ++ va_pl L f) H) (hm : a ∈ L) {cA : ClassId} {n : Nat} {g : Nat → Option Nat} (hf : f a = .inl (cA, n, .inr (.inr (.inr (.inr g))))) (t0 : Nat) {ty : FieldType} (ht : tys[t0]? = some (cA, ty)) (hdg : decode cc pc = .ok (.arraylength, 1))
    (kk : W p l e R s m args below meth c H locs cells slots Q (F0 m (pc + 1) ls (.int (nI n) :: rest))) : W p l e R s m args below meth c H locs cells slots Q (F0 m (pc) ls (.ref a :: rest)) := by
  obtain ⟨q, hq⟩ := pq_at (X := X) hm hf
  exact va_alen hexec hb hK hP q t0 hq ht rfl hdg kk
theorem pq_ald (hexec : p.tables.exec = Jvm.exec) (hb : c.code = cc) (hK : va_K D cl tys s) (hP : va_P D cl (X ++ va_pl L f) H) (hm : a ∈ L) {cA : ClassId} {C : String} {n : Nat} {g : Nat → Option Nat} (hf : f a = .inl (cA, n, .inr (.inr (.inr (.inr g))))) (t0 : Nat) (ht : tys[t0]? = some (cA, .object C)) {i : Nat} (hi : i < n) (hn : n < 2 ^ 31) {v : Value} (hv : va_rf (g i) = v) (hdg : decode cc pc = .ok (.aaload, 1))
    (kk : W p l e R s m args below meth c H locs cells slots Q (F0 m (pc + 1) ls (v :: rest))) : W p l e R s m args below meth c H locs cells slots Q (F0 m (pc) ls (.int (nI i) :: .ref a :: rest)) := by
  obtain ⟨q, hq⟩ := pq_at (X := X) hm hf
  exact va_aldq hexec hb hK hP q t0 hq ht (vp_in_nI hi hn) hdg (by rw [nI_clamp (by omega), hv]; exact kk)
theorem pq_astN (hexec : p.tables.exec = Jvm.exec) (hb : c.code = cc) (hK : va_K D cl tys s) (hP : va_P D cl (X ++ va_pl L f) H) (hD : va_D A (X ++ va_pl L f)) (hS : va_S A H0 H locs) (hm : a ∈ L) {cA : ClassId} {C : String} {n : Nat} {g : Nat → Option Nat} (hf : f a = .inl (cA, n, .inr (.inr (.inr (.inr g))))) (t0 : Nat) (ht : tys[t0]? = some (cA, .object C)) {i : Nat} (hi : i < n) (hn : n < 2 ^ 31) (hu : va_up f a (.inl (cA, n, .inr (.inr (.inr (.inr (va_up g i none)))))) = f') (hdg : decode cc pc = .ok (.aastore, 1))
    (kk : ∀ (H1 : Heap) (locs1 : List Loc), va_P D cl (X ++ va_pl L f') H1 → va_D A (X ++ va_pl L f') → va_S A H0 H1 locs1 → W p l e R s m args below meth c H1 locs1 cells slots Q (F0 m (pc + 1) ls (rest))) : W p l e R s m args below meth c H locs cells slots Q (F0 m (pc) ls (.null :: .int (nI i) :: .ref a :: rest)) := by
  obtain ⟨q, hq⟩ := va_pl_get (X := X) (f := f) hm
  have hq2 := hq
  rw [hf] at hq2
  refine va_astqN hexec hb hK hP hD hS q t0 hq2 ht (vp_in_nI hi hn) hdg (fun H1 locs1 h1 h2 h3 => ?_)
  rw [nI_clamp (by omega), va_pl_set hD hm hq, hu] at h1 h2
  exact kk H1 locs1 h1 h2 h3
theorem pq_ast (hexec : p.tables.exec = Jvm.exec) (hb : c.code = cc) (hK : va_K D cl tys s) (hP : va_P D cl (X ++ va_pl L f) H) (hD : va_D A (X ++ va_pl L f)) (hS : va_S A H0 H locs) (hm : a ∈ L) {cA : ClassId} {E : String} {n y ci : Nat} {r : vw_C} {fs : List Value} {g : Nat → Option Nat} (hf : f a = .inl (cA, n, .inr (.inr (.inr (.inr g))))) (t0 : Nat) (ht : tys[t0]? = some (cA, .object E)) (hca : va_Nw (.castable r.1 E) s) (hym : y ∈ L) (hyf : f y = .inr (ci, fs)) (hc : cl[ci]? = some r) {i : Nat} (hi : i < n) (hn : n < 2 ^ 31) (hu : va_up f a (.inl (cA, n, .inr (.inr (.inr (.inr (va_up g i (some y))))))) = f') (hdg : decode cc pc = .ok (.aastore, 1))
    (kk : ∀ (H1 : Heap) (locs1 : List Loc), va_P D cl (X ++ va_pl L f') H1 → va_D A (X ++ va_pl L f') → va_S A H0 H1 locs1 → W p l e R s m args below meth c H1 locs1 cells slots Q (F0 m (pc + 1) ls (rest))) : W p l e R s m args below meth c H locs cells slots Q (F0 m (pc) ls (.ref y :: .int (nI i) :: .ref a :: rest)) := by
  obtain ⟨q, hq⟩ := va_pl_get (X := X) (f := f) hm
  have hq2 := hq
  rw [hf] at hq2
  obtain ⟨q3, hq3⟩ := pq_at (X := X) hym hyf
  refine va_astqO hexec hb hK hP hD hS q t0 q3 ci hq2 ht hca hq3 hc (vp_in_nI hi hn) hdg (fun H1 locs1 h1 h2 h3 => ?_)
  rw [nI_clamp (by omega), va_pl_set hD hm hq, hu] at h1 h2
  exact kk H1 locs1 h1 h2 h3
theorem pq_astM (hexec : p.tables.exec = Jvm.exec) (hb : c.code = cc) (hK : va_K D cl tys s) (hP : va_P D cl (X ++ va_pl L f) H) (hD : va_D A (X ++ va_pl L f)) (hS : va_S A H0 H locs) (hm : a ∈ L) {cA : ClassId} {E : String} {n y : Nat} {g : Nat → Option Nat} (hf : f a = .inl (cA, n, .inr (.inr (.inr (.inr g))))) (t0 : Nat) (ht : tys[t0]? = some (cA, .object E)) (hr : va_Any E s H y) {i : Nat} (hi : i < n) (hn : n < 2 ^ 31) (hu : va_up f a (.inl (cA, n, .inr (.inr (.inr (.inr (va_up g i (some y))))))) = f') (hdg : decode cc pc = .ok (.aastore, 1))
    (kk : ∀ (H1 : Heap) (locs1 : List Loc), va_P D cl (X ++ va_pl L f') H1 → va_D A (X ++ va_pl L f') → va_S A H0 H1 locs1 → W p l e R s m args below meth c H1 locs1 cells slots Q (F0 m (pc + 1) ls (rest))) : W p l e R s m args below meth c H locs cells slots Q (F0 m (pc) ls (.ref y :: .int (nI i) :: .ref a :: rest)) := by
  obtain ⟨q, hq⟩ := va_pl_get (X := X) (f := f) hm
  have hq2 := hq
  rw [hf] at hq2
  refine va_astqM hexec hb hK hP hD hS q t0 hq2 ht hr (vp_in_nI hi hn) hdg (fun H1 locs1 h1 h2 h3 => ?_)
  rw [nI_clamp (by omega), va_pl_set hD hm hq, hu] at h1 h2
  exact kk H1 locs1 h1 h2 h3
theorem pq_copy (hexec : p.tables.exec = Jvm.exec) (hb : c.code = cc) (hml : c.maxLocals = ls.size) {own : String} {index : Nat} (hown : s.vm.findClass own = some m.cls) (hlink : (Cond.methodLink own index arraycopyName).before args s = true) (hnat : (Cond.native arraycopyName).before args s = true) (hstat : (Cond.static arraycopyName).before args s = true) (hini : (Cond.initialized "java/lang/System").before args s = true)
    (hK : va_K D cl tys s) (hP : va_P D cl (X ++ va_pl L f) H) (hD : va_D A (X ++ va_pl L f)) (hS : va_S A H0 H locs) {a0 : Nat} (hm0 : a0 ∈ L) (hm : a ∈ L) {cA : ClassId} {E : String} {n0 n1 n : Nat} {g0 g1 : Nat → Option Nat} (hf0 : f a0 = .inl (cA, n0, .inr (.inr (.inr (.inr g0))))) (hf : f a = .inl (cA, n1, .inr (.inr (.inr (.inr g1))))) (t0 : Nat) (ht : tys[t0]? = some (cA, .object E)) (h4 : n ≤ n0) (h5 : n ≤ n1) (hn : n < 2 ^ 31) (hel : ∀ i : Nat, i < n → ∀ y : Nat, g0 i = some y → va_Any E s H y)
    (hframes : 1 ≤ R.frames) (hlocals : (rest.map fun v => v.category).sum + (nativeFrameWords "java/lang/System" "arraycopy" 5 + 11) ≤ R.locals) (hu : va_up f a (.inl (cA, n1, .inr (.inr (.inr (.inr (va_cpy g0 g1 0 0 n)))))) = f') (hdg : decode cc pc = .ok (.invokestatic index, 3))
    (kk : ∀ (H1 : Heap) (locs1 : List Loc), va_P D cl (X ++ va_pl L f') H1 → va_D A (X ++ va_pl L f') → va_S A H0 H1 locs1 → W p l e R s m args below meth c H1 locs1 cells slots Q (F0 m (pc + 3) ls (rest))) : W p l e R s m args below meth c H locs cells slots Q (F0 m (pc) ls (.int (nI n) :: .int (nI 0) :: .ref a :: .int (nI 0) :: .ref a0 :: rest)) := by
  obtain ⟨q, hq⟩ := va_pl_get (X := X) (f := f) hm
  have hq2 := hq
  rw [hf] at hq2
  obtain ⟨q3, hq3⟩ := pq_at (X := X) hm0 hf0
  have z0 : (nI 0).toNatClampNeg = 0 := nI_clamp (by decide)
  have zn : (nI n).toNatClampNeg = n := nI_clamp hn
  refine va_copyM hexec hb hml hown hlink hnat hstat hini hK hP hD hS q3 q t0 t0 hq3 hq2 ht ht (nI_pos (by decide)) (nI_pos (by decide)) (nI_pos hn) (by rw [z0, zn]; omega) (by rw [z0, zn]; omega) (fun i hi y hy => ?_) hframes hlocals hdg (fun H1 locs1 h1 h2 h3 => ?_)
  · rw [zn] at hi; rw [z0, Nat.zero_add] at hy; exact hel i hi y hy
  · rw [z0, zn, va_pl_set hD hm hq, hu] at h1 h2
    exact kk H1 locs1 h1 h2 h3
theorem pq_arr (hK : va_K D cl tys s) (hP : va_P D cl (X ++ va_pl L f) H) (hm : a ∈ L) {cA : ClassId} {n : Nat} {g : Nat → Option Nat} (hf : f a = .inl (cA, n, .inr (.inr (.inr (.inr g))))) (t0 : Nat) (ht : tys[t0]? = some (cA, .object "java/lang/Object")) : ∃ cell : Cell, H[a]? = some cell ∧ cell.vm.isStatics = false ∧ s.vm.findClass "[Ljava/lang/Object;" = some cell.cls := by
  obtain ⟨q, hq⟩ := pq_at (X := X) hm hf
  obtain ⟨_, _, _, _, _, h4⟩ := (hK.2 t0 _ ht).2
  have e9 : "[" ++ (FieldType.object "java/lang/Object").toString = "[Ljava/lang/Object;" := by decide +kernel
  rw [e9] at h4
  exact ⟨_, hP q _ hq, rfl, h4⟩
theorem pq_any1 (hK : va_K D cl tys s) (hP : va_P D cl (X ++ va_pl L f) H) {y ci : Nat} {r : vw_C} {fs : List Value} {E : String} (hm : y ∈ L) (hf : f y = .inr (ci, fs)) (hc : cl[ci]? = some r) (hca : va_Nw (.castable r.1 E) s) : va_Any E s H y := by
  obtain ⟨q, hq⟩ := pq_at (X := X) hm hf
  obtain ⟨c0, t0, f1, f2, f3⟩ := Cond.castable_spec (va_Nw.use (A := #[]) rfl hca)
  refine va_rAny hK hP hq hc (fun comp c1 h1 h2 => ?_)
  cases f2.symm.trans h1
  cases f1.symm.trans h2
  exact f3
theorem pq_cast (hexec : p.tables.exec = Jvm.exec) (hb : c.code = cc) {own C nm : String} {T : u_T} {N ci index : Nat} {fs : List Value} (hown : s.vm.findClass own = some m.cls) (hlink : (Cond.classLink own index nm).before args s = true) (hca : va_Nw (.castable C nm) s) (hK : va_K D cl tys s) (hP : va_P D cl (X ++ va_pl L f) H) (hm : a ∈ L) (hf : f a = .inr (ci, fs)) (hc : cl[ci]? = some (C, T, N)) (hdg : decode cc pc = .ok (.checkcast index, 3))
    (kk : W p l e R s m args below meth c H locs cells slots Q (F0 m (pc + 3) ls (.ref a :: rest))) : W p l e R s m args below meth c H locs cells slots Q (F0 m (pc) ls (.ref a :: rest)) := by
  obtain ⟨q, hq⟩ := pq_at (X := X) hm hf
  exact va_castY hexec hb hown hlink hca (va_recv hK hP hc hq) hdg kk
theorem wd_i {S : Type} {post : Int32 → S → Prop} {rx plf : S → va_W} (hr : va_Run p l e R s m args below meth c H locs cells slots mc ms (F0 m pc ls st0) rest (va_Qi post (fun u t => wA D cl tys (va_A (cx ++ pl) H.size) (rx u ++ plf u) t) (va_A (cx ++ pl) H.size) av) (va_A (cx ++ pl) H.size)) (hP : va_P D cl (X ++ pl) H) (hD : va_D A0 (X ++ pl)) (hS : va_S A0 H0 H locs) (hA : ∀ q, H0.size ≤ q → A0 q) (isC isR : List Nat) (hC : isC.map (fun i => X[i]?) = cx.map some) (hR : isR.map (fun i => X[i]?) = wr.map some) (hn : va_nd isR = true) (hdis : ∀ i ∈ isR, i ∉ isC)
    (kk : ∀ (r : Int32) (u : S) (H1 : Heap) (locs1 : List Loc), post r u → va_P D cl ((wr ++ rx u) ++ plf u) H1 → va_D A0 ((wr ++ rx u) ++ plf u) → va_S A0 H0 H1 locs1 → W p l e R s m args below meth c H1 locs1 (cells + mc) (slots + ms) Q (F0 m (pc + 3) ls (.int r :: rest))) : W p l e R s m args below meth c H locs cells slots Q (F0 m pc ls st0) := by
  have hFc := va_freeP (cx := cx) hD hS hA isC hC
  refine va_calli hr hS (fun q _ h => hFc q h) hFc (fun r u t H1 locs1 ht hvm hw hB hz1 hk1 hS1 => ?_)
  obtain ⟨hP1, hK1, hD1⟩ := hB
  rw [ht] at hP1
  obtain ⟨hP2, hD2⟩ := va_joinP (wr := wr) hP hD isC isR hC hR hn hdis hk1 hFc hP1 hD1
  exact kk r u H1 locs1 hw hP2 hD2 hS1
theorem we_i {S : Type} {post : Int32 → S → Prop} {wsf : S → va_W} (hr : va_Run p l e R s m args below meth c H locs cells slots mc ms (F0 m pc ls st0) rest (va_Qi post (fun u t => wA D cl tys (va_A cx H.size) (wsf u) t) (va_A cx H.size) av) (va_A cx H.size)) (hP : va_P D cl (X ++ pl) H) (hD : va_D A0 (X ++ pl)) (hS : va_S A0 H0 H locs) (hA : ∀ q, H0.size ≤ q → A0 q) (isC isR : List Nat) (hC : isC.map (fun i => X[i]?) = cx.map some) (hR : isR.map (fun i => X[i]?) = wr.map some) (hn : va_nd isR = true) (hdis : ∀ i ∈ isR, i ∉ isC)
    (kk : ∀ (r : Int32) (u : S) (H1 : Heap) (locs1 : List Loc), post r u → va_P D cl ((wr ++ wsf u) ++ pl) H1 → va_D A0 ((wr ++ wsf u) ++ pl) → va_S A0 H0 H1 locs1 → W p l e R s m args below meth c H1 locs1 (cells + mc) (slots + ms) Q (F0 m (pc + 3) ls (.int r :: rest))) : W p l e R s m args below meth c H locs cells slots Q (F0 m pc ls st0) := by
  have hC2 : isC.map (fun i => (X ++ pl)[i]?) = cx.map some := by
    rw [← hC]
    refine List.map_congr_left (fun i hi => ?_)
    have h1 : X[i]? ∈ isC.map (fun i => X[i]?) := List.mem_map.mpr ⟨i, hi, rfl⟩
    rw [hC] at h1
    obtain ⟨y, -, hy⟩ := List.mem_map.mp h1
    exact List.getElem?_append_left (List.getElem?_eq_some_iff.mp hy.symm).1
  have hFc := va_free (wc := cx) hD hS hA isC hC2
  refine va_calli hr hS (fun q _ h => hFc q h) hFc (fun r u t H1 locs1 ht hvm hw hB hz1 hk1 hS1 => ?_)
  obtain ⟨hP1, hK1, hD1⟩ := hB
  rw [ht] at hP1
  obtain ⟨hP2, hD2⟩ := va_joinQ (wr := wr) hP hD isC isR hC hR hn hdis hk1 hFc hP1 hD1
  exact kk r u H1 locs1 hw hP2 hD2 hS1
theorem wd_v {S : Type} {post : S → Prop} {rx plf : S → va_W} (hr : va_Run p l e R s m args below meth c H locs cells slots mc ms (F0 m pc ls st0) rest (va_Qv post (fun u t => wA D cl tys (va_A (cx ++ pl) H.size) (rx u ++ plf u) t) (va_A (cx ++ pl) H.size) av) (va_A (cx ++ pl) H.size)) (hP : va_P D cl (X ++ pl) H) (hD : va_D A0 (X ++ pl)) (hS : va_S A0 H0 H locs) (hA : ∀ q, H0.size ≤ q → A0 q) (isC isR : List Nat) (hC : isC.map (fun i => X[i]?) = cx.map some) (hR : isR.map (fun i => X[i]?) = wr.map some) (hn : va_nd isR = true) (hdis : ∀ i ∈ isR, i ∉ isC)
    (kk : ∀ (u : S) (H1 : Heap) (locs1 : List Loc), post u → va_P D cl ((wr ++ rx u) ++ plf u) H1 → va_D A0 ((wr ++ rx u) ++ plf u) → va_S A0 H0 H1 locs1 → W p l e R s m args below meth c H1 locs1 (cells + mc) (slots + ms) Q (F0 m (pc + 3) ls (rest))) : W p l e R s m args below meth c H locs cells slots Q (F0 m pc ls st0) := by
  have hFc := va_freeP (cx := cx) hD hS hA isC hC
  refine va_callv hr hS (fun q _ h => hFc q h) hFc (fun u t H1 locs1 ht hvm hw hB hz1 hk1 hS1 => ?_)
  obtain ⟨hP1, hK1, hD1⟩ := hB
  rw [ht] at hP1
  obtain ⟨hP2, hD2⟩ := va_joinP (wr := wr) hP hD isC isR hC hR hn hdis hk1 hFc hP1 hD1
  exact kk u H1 locs1 hw hP2 hD2 hS1
theorem we_v {S : Type} {post : S → Prop} {wsf : S → va_W} (hr : va_Run p l e R s m args below meth c H locs cells slots mc ms (F0 m pc ls st0) rest (va_Qv post (fun u t => wA D cl tys (va_A cx H.size) (wsf u) t) (va_A cx H.size) av) (va_A cx H.size)) (hP : va_P D cl (X ++ pl) H) (hD : va_D A0 (X ++ pl)) (hS : va_S A0 H0 H locs) (hA : ∀ q, H0.size ≤ q → A0 q) (isC isR : List Nat) (hC : isC.map (fun i => X[i]?) = cx.map some) (hR : isR.map (fun i => X[i]?) = wr.map some) (hn : va_nd isR = true) (hdis : ∀ i ∈ isR, i ∉ isC)
    (kk : ∀ (u : S) (H1 : Heap) (locs1 : List Loc), post u → va_P D cl ((wr ++ wsf u) ++ pl) H1 → va_D A0 ((wr ++ wsf u) ++ pl) → va_S A0 H0 H1 locs1 → W p l e R s m args below meth c H1 locs1 (cells + mc) (slots + ms) Q (F0 m (pc + 3) ls (rest))) : W p l e R s m args below meth c H locs cells slots Q (F0 m pc ls st0) := by
  have hC2 : isC.map (fun i => (X ++ pl)[i]?) = cx.map some := by
    rw [← hC]
    refine List.map_congr_left (fun i hi => ?_)
    have h1 : X[i]? ∈ isC.map (fun i => X[i]?) := List.mem_map.mpr ⟨i, hi, rfl⟩
    rw [hC] at h1
    obtain ⟨y, -, hy⟩ := List.mem_map.mp h1
    exact List.getElem?_append_left (List.getElem?_eq_some_iff.mp hy.symm).1
  have hFc := va_free (wc := cx) hD hS hA isC hC2
  refine va_callv hr hS (fun q _ h => hFc q h) hFc (fun u t H1 locs1 ht hvm hw hB hz1 hk1 hS1 => ?_)
  obtain ⟨hP1, hK1, hD1⟩ := hB
  rw [ht] at hP1
  obtain ⟨hP2, hD2⟩ := va_joinQ (wr := wr) hP hD isC isR hC hR hn hdis hk1 hFc hP1 hD1
  exact kk u H1 locs1 hw hP2 hD2 hS1
theorem wd_q {S : Type} {post : Option Nat → S → Prop} {rx plf : S → va_W} (hr : va_Run p l e R s m args below meth c H locs cells slots mc ms (F0 m pc ls st0) rest (va_Qq post (fun u t => wA D cl tys (va_A (cx ++ pl) H.size) (rx u ++ plf u) t) (va_A (cx ++ pl) H.size) av) (va_A (cx ++ pl) H.size)) (hP : va_P D cl (X ++ pl) H) (hD : va_D A0 (X ++ pl)) (hS : va_S A0 H0 H locs) (hA : ∀ q, H0.size ≤ q → A0 q) (isC isR : List Nat) (hC : isC.map (fun i => X[i]?) = cx.map some) (hR : isR.map (fun i => X[i]?) = wr.map some) (hn : va_nd isR = true) (hdis : ∀ i ∈ isR, i ∉ isC)
    (kk : ∀ (r : Option Nat) (u : S) (H1 : Heap) (locs1 : List Loc), post r u → va_P D cl ((wr ++ rx u) ++ plf u) H1 → va_D A0 ((wr ++ rx u) ++ plf u) → va_S A0 H0 H1 locs1 → W p l e R s m args below meth c H1 locs1 (cells + mc) (slots + ms) Q (F0 m (pc + 3) ls (va_rf r :: rest))) : W p l e R s m args below meth c H locs cells slots Q (F0 m pc ls st0) := by
  have hFc := va_freeP (cx := cx) hD hS hA isC hC
  refine va_callq hr hS (fun q _ h => hFc q h) hFc (fun r u t H1 locs1 ht hvm hw hB hz1 hk1 hS1 => ?_)
  obtain ⟨hP1, hK1, hD1⟩ := hB
  rw [ht] at hP1
  obtain ⟨hP2, hD2⟩ := va_joinP (wr := wr) hP hD isC isR hC hR hn hdis hk1 hFc hP1 hD1
  exact kk r u H1 locs1 hw hP2 hD2 hS1
theorem we_q {S : Type} {post : Option Nat → S → Prop} {wsf : S → va_W} (hr : va_Run p l e R s m args below meth c H locs cells slots mc ms (F0 m pc ls st0) rest (va_Qq post (fun u t => wA D cl tys (va_A cx H.size) (wsf u) t) (va_A cx H.size) av) (va_A cx H.size)) (hP : va_P D cl (X ++ pl) H) (hD : va_D A0 (X ++ pl)) (hS : va_S A0 H0 H locs) (hA : ∀ q, H0.size ≤ q → A0 q) (isC isR : List Nat) (hC : isC.map (fun i => X[i]?) = cx.map some) (hR : isR.map (fun i => X[i]?) = wr.map some) (hn : va_nd isR = true) (hdis : ∀ i ∈ isR, i ∉ isC)
    (kk : ∀ (r : Option Nat) (u : S) (H1 : Heap) (locs1 : List Loc), post r u → va_P D cl ((wr ++ wsf u) ++ pl) H1 → va_D A0 ((wr ++ wsf u) ++ pl) → va_S A0 H0 H1 locs1 → W p l e R s m args below meth c H1 locs1 (cells + mc) (slots + ms) Q (F0 m (pc + 3) ls (va_rf r :: rest))) : W p l e R s m args below meth c H locs cells slots Q (F0 m pc ls st0) := by
  have hC2 : isC.map (fun i => (X ++ pl)[i]?) = cx.map some := by
    rw [← hC]
    refine List.map_congr_left (fun i hi => ?_)
    have h1 : X[i]? ∈ isC.map (fun i => X[i]?) := List.mem_map.mpr ⟨i, hi, rfl⟩
    rw [hC] at h1
    obtain ⟨y, -, hy⟩ := List.mem_map.mp h1
    exact List.getElem?_append_left (List.getElem?_eq_some_iff.mp hy.symm).1
  have hFc := va_free (wc := cx) hD hS hA isC hC2
  refine va_callq hr hS (fun q _ h => hFc q h) hFc (fun r u t H1 locs1 ht hvm hw hB hz1 hk1 hS1 => ?_)
  obtain ⟨hP1, hK1, hD1⟩ := hB
  rw [ht] at hP1
  obtain ⟨hP2, hD2⟩ := va_joinQ (wr := wr) hP hD isC isR hC hR hn hdis hk1 hFc hP1 hD1
  exact kk r u H1 locs1 hw hP2 hD2 hS1
end PL
theorem pq_any {s : State} {H : Heap} {A : Nat → Prop} {D : va_G} {tys : List (ClassId × FieldType)} {X : va_W} {L : List Nat} {cO : ClassId} {G : PG} {y : Nat} (hK : va_K D cl tys s) (hP : va_P D cl (X ++ va_pl L (gE cO G)) H) (hF : stF A s) (hL : gL L G) (h : 0 < G.1 y ∧ G.1 y < 7) : va_Any "java/lang/Object" s H y := by
  rcases (show G.1 y = 1 ∨ G.1 y = 2 ∨ G.1 y = 3 ∨ G.1 y = 4 ∨ G.1 y = 5 ∨ G.1 y = 6 by omega) with q | q | q | q | q | q
  · exact pq_any1 (ci := 7) (r := (R_Name, F_Name, 3)) hK hP (gL_m hL q (by decide)) (gE_1 q) rfl (hF.2.2.2.2 _ (List.mem_of_getElem? (i := 13) rfl))
  · exact pq_any1 (ci := 8) (r := (R_Wire, F_Wire, 7)) hK hP (gL_m hL q (by decide)) (gE_2 q) rfl (hF.2.2.2.2 _ (List.mem_of_getElem? (i := 14) rfl))
  · exact pq_any1 (ci := 11) (r := (R_Side, F_Side, 5)) hK hP (gL_m hL q (by decide)) (gE_3 q) rfl (hF.2.2.2.2 _ (List.mem_of_getElem? (i := 18) rfl))
  · exact pq_any1 (ci := 12) (r := (R_Link, F_Link, 4)) hK hP (gL_m hL q (by decide)) (gE_4 q) rfl (hF.2.2.2.2 _ (List.mem_of_getElem? (i := 19) rfl))
  · exact pq_any1 (ci := 10) (r := (R_Part, F_Part, 3)) hK hP (gL_m hL q (by decide)) (gE_5 q) rfl (hF.2.2.2.2 _ (List.mem_of_getElem? (i := 17) rfl))
  · exact pq_any1 (ci := 6) (r := (R_Chip, F_Chip, 9)) hK hP (gL_m hL q (by decide)) (gE_6 q) rfl (hF.2.2.2.2 _ (List.mem_of_getElem? (i := 12) rfl))
/-- the contents of an array, all at once -/
abbrev gW (G : PG) (a : Nat) (row : Nat → Option Nat) : PG := (G.1, G.2.1, G.2.2.1, G.2.2.2.1, G.2.2.2.2.1, va_up G.2.2.2.2.2 a row)
theorem gs_W {G : PG} {a b : Nat} {row : Nat → Option Nat} (h : b ≠ a) : gs G (gW G a row) b := ⟨rfl, rfl, rfl, rfl, rfl, va_up_ne _ _ h⟩
theorem uE_8w {cO : ClassId} {G : PG} {a n : Nat} {row : Nat → Option Nat} (h : G.1 a = n + 8) : va_up (gE cO G) a (.inl (cO, n, .inr (.inr (.inr (.inr row))))) = gE cO (gW G a row) := by
  funext b
  by_cases e : b = a
  · subst e; rw [va_up_self, gE_8 (G := gW G b row) h]; show _ = Sum.inl (cO, n, Sum.inr (Sum.inr (Sum.inr (Sum.inr (va_up G.2.2.2.2.2 b row b))))); rw [va_up_self]
  · rw [va_up_ne _ _ e, gE_s (gs_W e)]
/-- a number that no field shows -/
theorem gE_gh {cO : ClassId} {G : PG} {a v : Nat} : gE cO (gN G a 9 v) = gE cO G := by
  funext b
  unfold gE
  simp [up2]
section WRA
variable {p : Program} {l : Launch} {e : Env} {R : Room} {s : State} {m : MethodId} {args : Array Value} {below : List Frame} {meth : Method} {c : Code} {H : Heap} {locs : List Loc} {cells slots : Nat}
variable {cc : ByteArray} {pc : Nat} {ls : Array Slot} {A : Nat → Prop} {D : va_G} {cl : List vw_C} {tys : List (ClassId × FieldType)}
theorem wr_a {S : Type} {post : Option Nat → S → Prop} {wsf : S → va_W} {rt : FieldType} (hexec : p.tables.exec = Jvm.exec) (hb : c.code = cc) (hr : meth.sig.returnType = some rt) (hrt : ∃ t, rt = .array t) (hlocks : meth.locks = false) (u : S) {r : Option Nat} (hpost : post r u) (hK : va_K D cl tys s) (hP : va_P D cl (wsf u) H) (hD : va_D A (wsf u)) (hS : va_S A s.heap H locs) (hdg : decode cc pc = .ok (.areturn, 1)) : W p l e R s m args below meth c H locs cells slots (MQ below (va_Qq post (fun u t => wA D cl tys A (wsf u) t) A) args s cells slots A) (F0 m pc ls [va_rf r]) :=
  W.aret hexec hb hr (Or.inr hrt) (by cases r with | none => exact Or.inl rfl | some b => exact Or.inr ⟨b, rfl⟩) (fun t ht hW => ⟨⟨r, u, rfl, hpost, by rw [ht]; exact hP, va_K.moved hW.alike hK, hD⟩, hS.F ht⟩) hS.2.2 hdg hlocks
end WRA
/-- a new cell goes into the pool -/
theorem pq_in {D : va_G} {cl : List vw_C} {A : Nat → Prop} {X : va_W} {L : List Nat} {f : Nat → va_E} {q : Nat} {e : va_E} {H : Heap} (hP : va_P D cl ((X ++ [(q, e)]) ++ va_pl L f) H) (hD : va_D A ((X ++ [(q, e)]) ++ va_pl L f)) : q ∉ L ∧ va_P D cl (X ++ va_pl (L ++ [q]) (va_up f q e)) H ∧ va_D A (X ++ va_pl (L ++ [q]) (va_up f q e)) := by
  have h1 := hP.swap
  have h2 := hD.swap
  have hq := va_pl_fresh2 h2
  rw [List.append_assoc, va_pl_push hq] at h1 h2
  exact ⟨hq, h1, h2⟩
