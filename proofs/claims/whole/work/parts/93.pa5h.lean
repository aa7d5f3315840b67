def sid (G : PG) (a nm : Nat) : PG := gR (gN (gN (gO (gO G a 1 none) a 2 none) a 3 0) a 4 0) a 0 (some nm)
def lnk (G : PG) (a x y : Nat) (z : Option Nat) : PG := gR (gR (gR (gR G a 2 none) a 0 (some x)) a 1 (some y)) a 3 z
theorem sid_gs {G : PG} {a nm b : Nat} (h : b ≠ a) : gs G (sid G a nm) b := ((((gs_O h).tr (gs_O h)).tr (gs_N h)).tr (gs_N h)).tr (gs_R h)
theorem lnk_gs {G : PG} {a x y b : Nat} {z : Option Nat} (h : b ≠ a) : gs G (lnk G a x y z) b := (((gs_R h).tr (gs_R h)).tr (gs_R h)).tr (gs_R h)
theorem isS_of {G : PG} {a nm : Nat} (h : G.1 a = 3) : isS (sid G a nm) a nm none none 0 0 := by
  refine ⟨h, ?_, ?_, ?_, ?_, ?_⟩ <;> simp [sid, up2]
theorem isK_of {G : PG} {a x y : Nat} {z : Option Nat} (h : G.1 a = 4) : isK (lnk G a x y z) a x y none z := by
  refine ⟨h, ?_, ?_, ?_, ?_⟩ <;> simp [lnk, up2]
theorem LSx_old {t0 : Nat} {G G' : PG} {l : Nat} {xs : List Nat} (h : LSx t0 G l xs) (hf : ∀ b, G.1 b ≠ 0 → gs G G' b) : LSx t0 G' l xs := LSx_fs h (LFs_of hf (fun _ => False)) (fun _ _ q => q) (fun q => q)
theorem isS_c {G : PG} {s nm x : Nat} (h : isS G s nm none none 0 0) : isS (gO G s 1 (some x)) s nm (some x) none 0 0 := by
  obtain ⟨h1, h2, h3, h4, h5, h6⟩ := h
  refine ⟨h1, h2, up2_s _ _ _ _, ?_, h5, h6⟩
  show up2 G.2.2.1 s 1 _ s 2 = none; rw [up2_k _ _ _ _ (by decide)]; exact h4
/-- the wire x is called so -/
def ftk (G : PG) (hh tt : Int64) (x : Nat) : Bool := match G.2.2.2.2.2 x 0 with
  | some nm => decide (G.2.2.2.2.1 nm 0 = hh) && decide (G.2.2.2.2.1 nm 1 = tt)
  | none => false
theorem fnd_cg {p q : Nat → Bool} : ∀ {xs : List Nat}, (∀ x ∈ xs, p x = q x) → xs.find? p = xs.find? q
  | [], _ => rfl
  | x :: xs, h => by
    rw [List.find?_cons, List.find?_cons, h x List.mem_cons_self, fnd_cg (xs := xs) (fun y hy => h y (List.mem_cons_of_mem _ hy))]
theorem fnd_eq {G G' : PG} {wn : Nat} {hh tt : Int64} {pl : Option Nat} {xs : List Nat} (hw : ∀ x ∈ xs, G.1 x = 2 ∧ ∃ nm, G.2.2.2.2.2 x 0 = some nm ∧ G.1 nm = 1) (hf : ∀ b, G.1 b ≠ 0 → gs G G' b) (hn : isN G' wn hh tt pl) : xs.find? (fsm G' wn) = xs.find? (ftk G hh tt) := fnd_cg (fun x hx => by
  obtain ⟨h1, nm, h2, h3⟩ := hw x hx
  have g1 := hf x (by omega)
  have g2 := hf nm (by omega)
  unfold fsm ftk
  rw [g1.2.2.2.2.2, h2]
  show (decide _ && decide _) = (decide _ && decide _)
  rw [g2.2.2.2.2.1, hn.2.1, hn.2.2.1])
theorem hw_old {G G' : PG} {xs : List Nat} (hw : ∀ x ∈ xs, G.1 x = 2 ∧ ∃ nm, G.2.2.2.2.2 x 0 = some nm ∧ G.1 nm = 1) (hf : ∀ b, G.1 b ≠ 0 → gs G G' b) : ∀ x ∈ xs, G'.1 x = 2 ∧ ∃ nm, G'.2.2.2.2.2 x 0 = some nm ∧ G'.1 nm = 1 := fun x hx => by
  obtain ⟨h1, nm, h2, h3⟩ := hw x hx
  exact ⟨(hf x (by omega)).1.trans h1, nm, by rw [(hf x (by omega)).2.2.2.2.2]; exact h2, (hf nm (by omega)).1.trans h3⟩
