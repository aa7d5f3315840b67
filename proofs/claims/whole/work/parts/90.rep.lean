/-! How the pool stands for a state of the reference's parser -/
/-- a run of addresses -/
def rga (f : Nat → Nat) (a b : Nat) : List Nat := (List.range' a (b - a)).map f
theorem rga_len (f : Nat → Nat) (a b : Nat) : (rga f a b).length = b - a := by unfold rga; simp
theorem rga_get {f : Nat → Nat} {a b i : Nat} (h : i < b - a) : (rga f a b)[i]? = some (f (a + i)) := by
  unfold rga; rw [List.getElem?_map, List.getElem?_range' h]; simp
theorem rga_nil {f : Nat → Nat} {a b : Nat} (h : b ≤ a) : rga f a b = [] := by unfold rga; rw [Nat.sub_eq_zero_of_le h]; rfl
theorem rga_snoc {f : Nat → Nat} {a b : Nat} (h : a ≤ b) : rga f a (b + 1) = rga f a b ++ [f b] := by
  unfold rga
  rw [show b + 1 - a = (b - a) + 1 by omega, List.range'_concat, List.map_append]
  simp; congr 1; omega
theorem rga_mem {f : Nat → Nat} {a b x : Nat} : x ∈ rga f a b ↔ ∃ j, a ≤ j ∧ j < b ∧ x = f j := by
  unfold rga
  rw [List.mem_map]
  constructor
  · rintro ⟨j, h1, h2⟩
    rw [List.mem_range'_1] at h1
    exact ⟨j, by omega, by omega, h2.symm⟩
  · rintro ⟨j, h1, h2, h3⟩
    exact ⟨j, List.mem_range'_1.mpr ⟨h1, by omega⟩, h3.symm⟩
theorem rga_eq {f g : Nat → Nat} {a b : Nat} (h : ∀ j, a ≤ j → j < b → f j = g j) : rga f a b = rga g a b := by
  unfold rga
  refine List.map_congr_left (fun j hj => ?_)
  rw [List.mem_range'_1] at hj
  exact h j hj.1 (by omega)
theorem rga_cons {f : Nat → Nat} {a b : Nat} (h : a < b) : rga f a b = f a :: rga f (a + 1) b := by
  unfold rga
  rw [show b - a = (b - (a + 1)) + 1 by omega, List.range'_succ]; rfl
/-- the rows that end with the next one's beginning, or with the count -/
def pe (P : PS) (c : Nat) : Nat := if c + 1 < P.1 15 then P.2.2.1 17 (c + 1) else P.1 18
def ie (P : PS) (c : Nat) : Nat := if c + 1 < P.1 15 then P.2.2.1 36 (c + 1) else P.1 37
def qe (P : PS) (c : Nat) : Nat := if c + 1 < P.1 15 then P.2.2.1 23 (c + 1) else P.1 24
def le_ (P : PS) (q : Nat) : Nat := if q + 1 < P.1 24 then P.2.2.1 26 (q + 1) else P.1 27
/-- how many of the pins are IN pins -/
def icn (f : Nat → Bool) (a : Nat) : Nat → Nat
  | 0 => 0
  | n + 1 => icn f a n + (if f (a + n) = true then 0 else 1)
theorem icn_eq {f g : Nat → Bool} {a : Nat} : ∀ n, (∀ j, a ≤ j → j < a + n → f j = g j) → icn f a n = icn g a n
  | 0, _ => rfl
  | n + 1, h => by
    show icn f a n + _ = icn g a n + _
    rw [icn_eq n (fun j h1 h2 => h j h1 (by omega)), h (a + n) (by omega) (by omega)]
theorem icn_le (f : Nat → Bool) (a : Nat) : ∀ n, icn f a n ≤ n
  | 0 => Nat.le_refl _
  | n + 1 => by
    have := icn_le f a n
    show icn f a n + (if f (a + n) = true then 0 else 1) ≤ n + 1
    split <;> omega
/-- a side, a link, a part -/
def isS (G : PG) (s nm : Nat) (co ro : Option Nat) (lo hi : Nat) : Prop := G.1 s = 3 ∧ G.2.2.2.2.2 s 0 = some nm ∧ G.2.2.1 s 1 = co ∧ G.2.2.1 s 2 = ro ∧ G.2.1 s 3 = lo ∧ G.2.1 s 4 = hi
def isK (G : PG) (k s1 s2 : Nat) (pn wo : Option Nat) : Prop := G.1 k = 4 ∧ G.2.2.2.2.2 k 0 = some s1 ∧ G.2.2.2.2.2 k 1 = some s2 ∧ G.2.2.2.2.2 k 2 = pn ∧ G.2.2.2.2.2 k 3 = wo
def isQ (G : PG) (q nm ls : Nat) (ch : Option Nat) : Prop := G.1 q = 5 ∧ G.2.2.2.2.2 q 0 = some nm ∧ G.2.2.2.2.2 q 1 = some ls ∧ G.2.2.2.2.2 q 2 = ch
theorem isS.keep {G G' : PG} {s nm lo hi : Nat} {co ro : Option Nat} (h : isS G s nm co ro lo hi) (hg : gs G G' s) : isS G' s nm co ro lo hi := by
  obtain ⟨g1, g2, g3, g4, g5, g6⟩ := hg
  unfold isS at h ⊢
  rw [g1, g2, g3, g6]; exact h
theorem isK.keep {G G' : PG} {k s1 s2 : Nat} {pn wo : Option Nat} (h : isK G k s1 s2 pn wo) (hg : gs G G' k) : isK G' k s1 s2 pn wo := by
  obtain ⟨g1, g2, g3, g4, g5, g6⟩ := hg
  unfold isK at h ⊢
  rw [g1, g6]; exact h
theorem isQ.keep {G G' : PG} {q nm ls : Nat} {ch : Option Nat} (h : isQ G q nm ls ch) (hg : gs G G' q) : isQ G' q nm ls ch := by
  obtain ⟨g1, g2, g3, g4, g5, g6⟩ := hg
  unfold isQ at h ⊢
  rw [g1, g6]; exact h
theorem isV.keep {G G' : PG} {q nm k w : Nat} {b : Option Nat} (h : isV G q nm k w b) (hg : gs G G' q) : isV G' q nm k w b := by
  obtain ⟨g1, g2, g3, g4, g5, g6⟩ := hg
  unfold isV at h ⊢
  rw [g1, g2, g3, g4, g6]; exact h
/-- all but the objects and lists of S, and the arrays of these lists, is as before -/
def LFs (G G' : PG) (S : Nat → Prop) : Prop := (∀ b, G.1 b ≠ 0 → G.1 b < 8 → G'.1 b = G.1 b) ∧ ∀ b, G.1 b ≠ 0 → ¬ S b → ¬ (8 ≤ G.1 b ∧ S (G.2.1 b 9)) → gs G G' b
theorem LFs.rf (G : PG) (S : Nat → Prop) : LFs G G S := ⟨fun _ _ _ => rfl, fun b _ _ _ => gs.rf G b⟩
theorem LFs.gs {G G' : PG} {S : Nat → Prop} (h : LFs G G' S) {b : Nat} (h0 : G.1 b ≠ 0) (h8 : G.1 b < 8) (hS : ¬ S b) : gs G G' b := h.2 b h0 hS (fun q => by omega)
theorem LFs.mono {G G' : PG} {S S' : Nat → Prop} (h : LFs G G' S) (hs : ∀ b, S b → S' b) : LFs G G' S' := ⟨h.1, fun b h0 h1 h2 => h.2 b h0 (fun q => h1 (hs _ q)) (fun q => h2 ⟨q.1, hs _ q.2⟩)⟩
theorem LFs.tr {G G1 G2 : PG} {S : Nat → Prop} (h : LFs G G1 S) (h2 : LFs G1 G2 S) : LFs G G2 S := by
  refine ⟨fun b a c => ?_, fun b a c d => ?_⟩
  · have e := h.1 b a c
    rw [h2.1 b (by rw [e]; exact a) (by rw [e]; exact c), e]
  · have e := h.2 b a c d
    exact e.tr (h2.2 b (by rw [e.1]; exact a) c (by rw [e.1, e.2.1]; exact d))
theorem LFs_LF {G G' : PG} {l : Nat} (h : LF G G' l) (h1 : G.1 l = 7) (h2 : G'.1 l = 7) : LFs G G' (fun b => b = l) := by
  refine ⟨fun b a c => ?_, fun b a c d => h b a c d⟩
  by_cases e : b = l
  · rw [e, h1, h2]
  · exact (h b a e (fun q => by omega)).1
theorem LFs_LFa {G G' : PG} {l x : Nat} (h : LFa G G' l x) (h1 : G.1 l = 7) (h2 : G'.1 l = 7) (h3 : G'.1 x = G.1 x) : LFs G G' (fun b => b = l ∨ b = x) := by
  refine ⟨fun b a c => ?_, fun b a c d => h b a (fun q => c (Or.inl q)) (fun q => c (Or.inr q)) (fun q => d ⟨q.1, Or.inl q.2⟩)⟩
  by_cases e : b = l
  · rw [e, h1, h2]
  · by_cases e2 : b = x
    · rw [e2, h3]
    · exact (h b a e e2 (fun q => by omega)).1
theorem LFs_of {G G' : PG} (h : ∀ b, G.1 b ≠ 0 → gs G G' b) (S : Nat → Prop) : LFs G G' S := ⟨fun b a _ => (h b a).1, fun b a _ _ => h b a⟩
theorem LSx_fs {t0 : Nat} {G G' : PG} {S : Nat → Prop} {l : Nat} {xs : List Nat} (h : LSx t0 G l xs) (hf : LFs G G' S) (hS : ∀ b, 8 ≤ G.1 b → ¬ S b) (hl : ¬ S l) : LSx t0 G' l xs := by
  have hk := h.k.1
  refine LSx_of h (fun b hb => ?_) (fun x hx => hf.1 x (by have := LSx_el h x hx; omega) (by have := LSx_el h x hx; omega))
  rcases hb with q | q
  · rw [q]; exact hf.gs (by omega) (by omega) hl
  · exact hf.2 b (by omega) (hS b q.1) (fun r => hl (by rw [← q.2]; exact r.2))
/-- the kinds of the addresses: 0 chip, 1 its name, 2 3 4 its lists; 5 pin, 6 its name; 7 inner name (its name: 8); 9 part, 10 its name, 11 its list; 12 link, 13 14 its left side and the name there, 15 16 its right side; 17 gate, 18 its name, 19 20 21 its lists; 22 its pins, 23 their names; 24 the list of chips; numbers: 32 a link's chip, 33 a part's chip -/
def kdo : Nat → Nat
  | 0 => 6 | 1 => 1 | 2 => 7 | 3 => 7 | 4 => 7 | 5 => 2 | 6 => 1 | 7 => 2 | 9 => 5 | 10 => 1 | 11 => 7 | 12 => 4 | 13 => 3 | 14 => 1 | 15 => 3 | 16 => 1 | 17 => 6 | 18 => 1 | 19 => 7 | 20 => 7 | 21 => 7 | 22 => 2 | 23 => 1 | _ => 7
theorem kdo_b (k : Nat) : 0 < kdo k ∧ kdo k < 8 := by unfold kdo; split <;> decide
def cno (P : PS) : Nat → Nat
  | 0 => P.1 15 | 1 => P.1 15 | 2 => P.1 15 | 3 => P.1 15 | 4 => P.1 15 | 5 => P.1 18 | 6 => P.1 18 | 7 => P.1 37 | 9 => P.1 24 | 10 => P.1 24 | 11 => P.1 24 | 12 => P.1 27 | 13 => P.1 27 | 14 => P.1 27 | 15 => P.1 27 | 16 => P.1 27 | 17 => 2 | 18 => 2 | 19 => 2 | 20 => 2 | 21 => 2 | 22 => 5 | 23 => 5 | 24 => 1 | _ => 0
def cnz : Nat → Nat
  | 17 => 2 | 18 => 2 | 19 => 2 | 20 => 2 | 21 => 2 | 22 => 5 | 23 => 5 | 24 => 1 | _ => 0
theorem cnz_le (P : PS) (k : Nat) : cnz k ≤ cno P k := by unfold cnz; split <;> first | exact Nat.zero_le _ | exact Nat.le_refl _
/-- every address is of its kind, and no two are the same -/
def RT (G : PG) (ad : Nat → Nat → Nat) (tg : Nat → Nat × Nat) (n : Nat → Nat) : Prop := ∀ k j, j < n k → G.1 (ad k j) = kdo k ∧ tg (ad k j) = (k, j)
theorem RT.ne {G : PG} {ad : Nat → Nat → Nat} {tg : Nat → Nat × Nat} {n : Nat → Nat} (h : RT G ad tg n) {k j k' j' : Nat} (h1 : j < n k) (h2 : j' < n k') (hn : ¬ (k = k' ∧ j = j')) : ad k j ≠ ad k' j' := fun e => by
  have e1 := (h k j h1).2
  have e2 := (h k' j' h2).2
  rw [e, e2] at e1
  have e3 := Prod.mk.inj e1
  exact hn ⟨e3.1.symm, e3.2.symm⟩
theorem RT.k0 {G : PG} {ad : Nat → Nat → Nat} {tg : Nat → Nat × Nat} {n : Nat → Nat} (h : RT G ad tg n) {k j : Nat} (h1 : j < n k) : G.1 (ad k j) ≠ 0 ∧ G.1 (ad k j) < 8 := by
  rw [(h k j h1).1]
  have := kdo_b k
  omega
theorem RT.fr {G G' : PG} {ad : Nat → Nat → Nat} {tg : Nat → Nat × Nat} {n : Nat → Nat} {S : Nat → Prop} (h : RT G ad tg n) (hf : LFs G G' S) : RT G' ad tg n := fun k j hj => ⟨(hf.1 _ (h.k0 hj).1 (h.k0 hj).2).trans (h k j hj).1, (h k j hj).2⟩
theorem RT.sub {G : PG} {ad : Nat → Nat → Nat} {tg : Nat → Nat × Nat} {n n' : Nat → Nat} (h : RT G ad tg n) (hs : ∀ k, n' k ≤ n k) : RT G ad tg n' := fun k j hj => h k j (Nat.lt_of_lt_of_le hj (hs k))
theorem RT.add {G : PG} {ad : Nat → Nat → Nat} {tg : Nat → Nat × Nat} {n n' : Nat → Nat} {q k0 j0 : Nat} (h : RT G ad tg n) (hq : ∀ k j, j < n k → ad k j ≠ q) (hk : G.1 q = kdo k0) (hj : n k0 ≤ j0) (hn : ∀ k j, j < n' k → j < n k ∨ (k = k0 ∧ j = j0)) : RT G (up2 ad k0 j0 q) (va_up tg q (k0, j0)) n' := by
  intro k j h1
  by_cases e : k = k0 ∧ j = j0
  · rw [e.1, e.2, up2_s, va_up_self]; exact ⟨hk, rfl⟩
  · have h2 : j < n k := by rcases hn k j h1 with r | r; exact r; exact absurd r e
    have e2 : up2 ad k0 j0 q k j = ad k j := if_neg e
    rw [e2, va_up_ne _ _ (hq k j h2)]
    exact h k j h2
/-- the two gates -/
def GT (t0 : Nat) (G : PG) (ad : Nat → Nat → Nat) : Prop :=
  (isC G (ad 17 0) (ad 18 0) 1 0 (ad 19 0) (ad 20 0) (ad 21 0) 2 ∧ G.2.1 (ad 17 0) 7 = 2 ∧ G.2.1 (ad 17 0) 8 = 3) ∧ (isC G (ad 17 1) (ad 18 1) 2 0 (ad 19 1) (ad 20 1) (ad 21 1) 1 ∧ G.2.1 (ad 17 1) 7 = 1 ∧ G.2.1 (ad 17 1) 8 = 2) ∧
  isN G (ad 18 0) 0x4E616E64 0 none ∧ isN G (ad 18 1) 0x446666 0 none ∧ LSx t0 G (ad 19 0) [ad 22 0, ad 22 1, ad 22 2] ∧ LSx t0 G (ad 19 1) [ad 22 3, ad 22 4] ∧ (∀ g, g < 2 → LSx t0 G (ad 20 g) [] ∧ LSx t0 G (ad 21 g) []) ∧
  (∀ j, j < 5 → G.1 (ad 22 j) = 2 ∧ G.2.2.2.2.2 (ad 22 j) 0 = some (ad 23 j) ∧ G.2.1 (ad 22 j) 1 = (if j = 2 ∨ j = 4 then 1 else 0) ∧ G.2.1 (ad 22 j) 2 = 1 ∧ G.2.2.1 (ad 22 j) 3 = none ∧ G.2.1 (ad 22 j) 4 = (if j < 3 then j else j - 3) ∧ G.2.1 (ad 22 j) 5 < 65536) ∧
  isN G (ad 23 0) 97 0 none ∧ isN G (ad 23 1) 98 0 none ∧ isN G (ad 23 2) 0x6F7574 0 none ∧ isN G (ad 23 3) 0x696E 0 none ∧ isN G (ad 23 4) 0x6F7574 0 none
theorem GT.fr {t0 : Nat} {G G' : PG} {ad : Nat → Nat → Nat} {tg : Nat → Nat × Nat} {S : Nat → Prop} (h : GT t0 G ad) (hT : RT G ad tg cnz) (hf : LFs G G' S) (hS : ∀ b, 8 ≤ G.1 b → ¬ S b) (hn : ∀ k j, k ≠ 24 → j < cnz k → ¬ S (ad k j)) : GT t0 G' ad := by
  have g : ∀ k j, k ≠ 24 → j < cnz k → gs G G' (ad k j) := fun k j a b => hf.gs (hT.k0 b).1 (hT.k0 b).2 (hn k j a b)
  have ll : ∀ {k j : Nat} {xs : List Nat}, k ≠ 24 → j < cnz k → LSx t0 G (ad k j) xs → LSx t0 G' (ad k j) xs := fun a b c => LSx_fs c hf hS (hn _ _ a b)
  obtain ⟨⟨a1, a2, a3⟩, ⟨b1, b2, b3⟩, c1, c2, d1, d2, d3, e, f1, f2, f3, f4, f5⟩ := h
  have g0 := g 17 0 (by decide) (by decide)
  have g1 := g 17 1 (by decide) (by decide)
  refine ⟨⟨a1.keep g0, by rw [g0.2.1]; exact a2, by rw [g0.2.1]; exact a3⟩, ⟨b1.keep g1, by rw [g1.2.1]; exact b2, by rw [g1.2.1]; exact b3⟩, c1.keep (g 18 0 (by decide) (by decide)), c2.keep (g 18 1 (by decide) (by decide)), ll (by decide) (by decide) d1, ll (by decide) (by decide) d2, fun i hi => ⟨ll (by decide) hi (d3 i hi).1, ll (by decide) hi (d3 i hi).2⟩, fun j hj => ?_, f1.keep (g 23 0 (by decide) (by decide)), f2.keep (g 23 1 (by decide) (by decide)), f3.keep (g 23 2 (by decide) (by decide)), f4.keep (g 23 3 (by decide) (by decide)), f5.keep (g 23 4 (by decide) (by decide))⟩
  obtain ⟨g1, g2, g3, g4, g5, g6⟩ := g 22 j (by decide) hj
  rw [g1, g2, g3, g6]; exact e j hj
/-- the wire that a link's right side names -/
def wro (ft : Nat → Int32) (ad : Nat → Nat → Nat) (P : PS) (c l : Nat) : Option Nat :=
  if P.2.2.1 7 (P.2.2.1 32 l) = 1 then (match m_find ft (P.2.2.1 8) (P.2.2.1 9) (P.2.2.1 20) (P.2.2.1 32 l) (pe P c - P.2.2.1 17 c) (P.2.2.1 17 c) with
    | some x => some (ad 5 x)
    | none => (m_find ft (P.2.2.1 8) (P.2.2.1 9) (P.2.2.1 38) (P.2.2.1 32 l) (ie P c - P.2.2.1 36 c) (P.2.2.1 36 c)).map (ad 7)) else none
def cst (tv : Nat → Int32) (P : PS) (l : Nat) : Option Nat := if P.2.2.1 7 (P.2.2.1 32 l) = 1 then none else some (if tv (P.2.2.1 32 l) = nI 4 then 1 else 0)
def rl0 (P : PS) (k l : Nat) : Nat := if P.2.2.1 7 (P.2.2.1 32 l) = 1 then P.2.2.1 k l else 0
/-- a name as token t tells it -/
def isT (fh fl : Nat → Int64) (pp : Nat → Nat) (G : PG) (a t : Nat) : Prop := isN G a (fh t) (fl t) (some (pp t))
theorem isT.keep {fh fl : Nat → Int64} {pp : Nat → Nat} {G G' : PG} {a t : Nat} (h : isT fh fl pp G a t) (hg : gs G G' a) : isT fh fl pp G' a t := isN.keep h hg
section REP
variable {t0 : Nat} {ft tv : Nat → Int32} {nv : Nat → Nat} {fh fl : Nat → Int64} {pp nn : Nat → Nat} {G G' : PG} {ad ad' : Nat → Nat → Nat} {tg : Nat → Nat × Nat} {P X : PS}
def RC_ (t0 : Nat) (fh fl : Nat → Int64) (pp : Nat → Nat) (G : PG) (ad : Nat → Nat → Nat) (P : PS) (c : Nat) : Prop :=
  isC G (ad 0 c) (ad 1 c) 0 c (ad 2 c) (ad 3 c) (ad 4 c) (icn (P.2.2.2.2 19) (P.2.2.1 17 c) (pe P c - P.2.2.1 17 c)) ∧ isT fh fl pp G (ad 1 c) (P.2.2.1 16 c) ∧ LSx t0 G (ad 2 c) (rga (ad 5) (P.2.2.1 17 c) (pe P c)) ∧ LSx t0 G (ad 3 c) (rga (ad 7) (P.2.2.1 36 c) (ie P c)) ∧ LSx t0 G (ad 4 c) (rga (ad 9) (P.2.2.1 23 c) (qe P c))
def RP_ (fh fl : Nat → Int64) (pp nn : Nat → Nat) (G : PG) (ad : Nat → Nat → Nat) (P : PS) (p : Nat) : Prop :=
  isV G (ad 5 p) (ad 6 p) (if P.2.2.2.2 19 p = true then 1 else 0) (P.2.2.1 21 p) (pwd nn pp (P.2.2.2.1 22 p)).2 ∧ isT fh fl pp G (ad 6 p) (P.2.2.1 20 p)
def RI_ (fh fl : Nat → Int64) (pp : Nat → Nat) (G : PG) (ad : Nat → Nat → Nat) (P : PS) (i : Nat) : Prop := isW G (ad 7 i) (ad 8 i) 2 ∧ isT fh fl pp G (ad 8 i) (P.2.2.1 38 i)
def RQ_ (t0 : Nat) (fh fl : Nat → Int64) (pp : Nat → Nat) (G : PG) (ad : Nat → Nat → Nat) (P : PS) (q : Nat) : Prop :=
  isQ G (ad 9 q) (ad 10 q) (ad 11 q) none ∧ isT fh fl pp G (ad 10 q) (P.2.2.1 25 q) ∧ LSx t0 G (ad 11 q) (rga (ad 12) (P.2.2.1 26 q) (le_ P q))
def RL_ (ft tv : Nat → Int32) (fh fl : Nat → Int64) (pp : Nat → Nat) (G : PG) (ad : Nat → Nat → Nat) (P : PS) (l : Nat) : Prop :=
  isK G (ad 12 l) (ad 13 l) (ad 15 l) none (wro ft ad P (ad 32 l) l) ∧ isS G (ad 13 l) (ad 14 l) none ((P.2.2.2.1 29 l).map pp) (P.2.2.1 30 l) (P.2.2.1 31 l) ∧ isT fh fl pp G (ad 14 l) (P.2.2.1 28 l) ∧ isS G (ad 15 l) (ad 16 l) (cst tv P l) ((P.2.2.2.1 33 l).map pp) (rl0 P 34 l) (rl0 P 35 l) ∧ isT fh fl pp G (ad 16 l) (P.2.2.1 32 l) ∧ (P.2.2.1 7 (P.2.2.1 32 l) = 1 → wro ft ad P (ad 32 l) l ≠ none)
/-- which chip a link and a part are in -/
def RN_ (ft : Nat → Int32) (m : Nat) (ad : Nat → Nat → Nat) (P : PS) : Prop := (∀ l, l < P.1 27 → ad 32 l < m) ∧ (∀ q l, q < P.1 24 → P.2.2.1 26 q ≤ l → l < le_ P q → ad 32 l = ad 33 q) ∧ (∀ c q, c < P.1 15 → P.2.2.1 23 c ≤ q → q < qe P c → ad 33 q = c) ∧ ∀ i, i < P.1 37 → ∃ l, l < P.1 27 ∧ P.2.2.1 38 i = P.2.2.1 32 l ∧ P.2.2.1 36 (ad 32 l) ≤ i ∧ i < ie P (ad 32 l) ∧ wro ft ad P (ad 32 l) l = some (ad 7 i)
/-- the pool stands for the state P -/
def RX (t0 qc qna qdf : Nat) (ft tv : Nat → Int32) (fh fl : Nat → Int64) (pp nn : Nat → Nat) (m : Nat) (G : PG) (ad : Nat → Nat → Nat) (tg : Nat → Nat × Nat) (P : PS) : Prop :=
  RT G ad tg (cno P) ∧ (ad 24 0 = qc ∧ ad 17 0 = qna ∧ ad 17 1 = qdf) ∧ GT t0 G ad ∧ LSx t0 G (ad 24 0) (rga (ad 0) 0 (P.1 15)) ∧
  (∀ c, c < P.1 15 → RC_ t0 fh fl pp G ad P c) ∧ (∀ p, p < P.1 18 → RP_ fh fl pp nn G ad P p) ∧ (∀ i, i < P.1 37 → RI_ fh fl pp G ad P i) ∧ (∀ q, q < P.1 24 → RQ_ t0 fh fl pp G ad P q) ∧ (∀ l, l < P.1 27 → RL_ ft tv fh fl pp G ad P l) ∧ RN_ ft m ad P
/-- what is left where a fault is found -/
def RB (t0 qc qna qdf : Nat) (G : PG) : Prop := ∃ ad tg, RT G ad tg cnz ∧ (ad 24 0 = qc ∧ ad 17 0 = qna ∧ ad 17 1 = qdf) ∧ GT t0 G ad ∧ ∃ ys, LSx t0 G (ad 24 0) ys ∧ ys.length ≤ 100
theorem RP_.keep {S : Nat → Prop} {p : Nat} (h : RP_ fh fl pp nn G ad P p) (hf : LFs G G' S) (hS : ∀ b, S b → G.1 b = 6 ∨ G.1 b = 7) (e19 : X.2.2.2.2 19 p = P.2.2.2.2 19 p) (e20 : X.2.2.1 20 p = P.2.2.1 20 p) (e21 : X.2.2.1 21 p = P.2.2.1 21 p) (e22 : X.2.2.2.1 22 p = P.2.2.2.1 22 p) (a5 : ad' 5 p = ad 5 p) (a6 : ad' 6 p = ad 6 p) : RP_ fh fl pp nn G' ad' X p := by
  unfold RP_; rw [e19, e20, e21, e22, a5, a6]
  exact ⟨h.1.keep (hf.gs (by rw [h.1.1]; decide) (by rw [h.1.1]; decide) (fun q => by have := hS _ q; rw [h.1.1] at this; omega)), h.2.keep (hf.gs (by rw [h.2.1]; decide) (by rw [h.2.1]; decide) (fun q => by have := hS _ q; rw [h.2.1] at this; omega))⟩
theorem RI_.keep {S : Nat → Prop} {p : Nat} (h : RI_ fh fl pp G ad P p) (hf : LFs G G' S) (hS : ∀ b, S b → G.1 b = 6 ∨ G.1 b = 7) (e38 : X.2.2.1 38 p = P.2.2.1 38 p) (a7 : ad' 7 p = ad 7 p) (a8 : ad' 8 p = ad 8 p) : RI_ fh fl pp G' ad' X p := by
  unfold RI_; rw [e38, a7, a8]
  exact ⟨h.1.keep (hf.gs (by rw [h.1.1]; decide) (by rw [h.1.1]; decide) (fun q => by have := hS _ q; rw [h.1.1] at this; omega)), h.2.keep (hf.gs (by rw [h.2.1]; decide) (by rw [h.2.1]; decide) (fun q => by have := hS _ q; rw [h.2.1] at this; omega))⟩
theorem RQ_.keep {S : Nat → Prop} {q : Nat} (h : RQ_ t0 fh fl pp G ad P q) (hf : LFs G G' S) (hS : ∀ b, S b → G.1 b = 6 ∨ G.1 b = 7) (e25 : X.2.2.1 25 q = P.2.2.1 25 q) (a9 : ad' 9 q = ad 9 q) (a10 : ad' 10 q = ad 10 q) (a11 : ad' 11 q = ad 11 q) (hl : LSx t0 G' (ad 11 q) (rga (ad' 12) (X.2.2.1 26 q) (le_ X q))) : RQ_ t0 fh fl pp G' ad' X q := by
  unfold RQ_; rw [e25, a9, a10, a11]
  exact ⟨h.1.keep (hf.gs (by rw [h.1.1]; decide) (by rw [h.1.1]; decide) (fun q => by have := hS _ q; rw [h.1.1] at this; omega)), h.2.1.keep (hf.gs (by rw [h.2.1.1]; decide) (by rw [h.2.1.1]; decide) (fun q => by have := hS _ q; rw [h.2.1.1] at this; omega)), hl⟩
theorem RL_.keep {S : Nat → Prop} {l : Nat} (h : RL_ ft tv fh fl pp G ad P l) (hf : LFs G G' S) (hS : ∀ b, S b → G.1 b = 6 ∨ G.1 b = 7) (er : ∀ k, k = 28 ∨ k = 30 ∨ k = 31 ∨ k = 32 ∨ k = 34 ∨ k = 35 → X.2.2.1 k l = P.2.2.1 k l) (eo : ∀ k, k = 29 ∨ k = 33 → X.2.2.2.1 k l = P.2.2.2.1 k l) (e7 : X.2.2.1 7 = P.2.2.1 7) (ea : ∀ k, 12 ≤ k → k ≤ 16 → ad' k l = ad k l) (ew : wro ft ad' X (ad' 32 l) l = wro ft ad P (ad 32 l) l) : RL_ ft tv fh fl pp G' ad' X l := by
  unfold RL_ cst rl0
  rw [ew, er 28 (by decide), er 30 (by decide), er 31 (by decide), er 32 (by decide), er 34 (by decide), er 35 (by decide), eo 29 (by decide), eo 33 (by decide), e7, ea 12 (by decide) (by decide), ea 13 (by decide) (by decide), ea 14 (by decide) (by decide), ea 15 (by decide) (by decide), ea 16 (by decide) (by decide)]
  obtain ⟨h1, h2, h3, h4, h5, h6⟩ := h
  have nS : ∀ {b n : Nat}, G.1 b = n → 0 < n → n < 6 → gs G G' b := fun {b n} a b1 c => hf.gs (by omega) (by omega) (fun q => by have := hS _ q; omega)
  exact ⟨h1.keep (nS h1.1 (by decide) (by decide)), h2.keep (nS h2.1 (by decide) (by decide)), h3.keep (nS h3.1 (by decide) (by decide)), h4.keep (nS h4.1 (by decide) (by decide)), h5.keep (nS h5.1 (by decide) (by decide)), h6⟩
theorem RC_.keep {S : Nat → Prop} {c : Nat} (h : RC_ t0 fh fl pp G ad P c) (hf : LFs G G' S) (hS : ∀ b, S b → G.1 b = 6 ∨ G.1 b = 7) (hn : ¬ S (ad 0 c) ∧ ¬ S (ad 2 c) ∧ ¬ S (ad 3 c) ∧ ¬ S (ad 4 c)) (er : ∀ k, k = 16 ∨ k = 17 ∨ k = 23 ∨ k = 36 → X.2.2.1 k c = P.2.2.1 k c) (ee : pe X c = pe P c ∧ ie X c = ie P c ∧ qe X c = qe P c) (eb : ∀ j, j < pe P c → X.2.2.2.2 19 j = P.2.2.2.2 19 j) (ea : ∀ k, k ≤ 4 → ad' k c = ad k c) (e5 : ∀ j, j < pe P c → ad' 5 j = ad 5 j) (e7 : ∀ j, j < ie P c → ad' 7 j = ad 7 j) (e9 : ∀ j, j < qe P c → ad' 9 j = ad 9 j) : RC_ t0 fh fl pp G' ad' X c := by
  obtain ⟨h1, h2, h3, h4, h5⟩ := h
  have h8 : ∀ b, 8 ≤ G.1 b → ¬ S b := fun b a q => by have := hS b q; omega
  unfold RC_
  rw [er 16 (by decide), er 17 (by decide), er 23 (by decide), er 36 (by decide), ee.1, ee.2.1, ee.2.2, ea 0 (by decide), ea 1 (by decide), ea 2 (by decide), ea 3 (by decide), ea 4 (by decide), rga_eq (g := ad 5) (fun j _ b => e5 j b), rga_eq (g := ad 7) (fun j _ b => e7 j b), rga_eq (g := ad 9) (fun j _ b => e9 j b), icn_eq (g := P.2.2.2.2 19) _ (fun j a b => eb j (by omega))]
  exact ⟨h1.keep (hf.gs (by rw [h1.1]; decide) (by rw [h1.1]; decide) hn.1), h2.keep (hf.gs (by rw [h2.1]; decide) (by rw [h2.1]; decide) (fun q => by have := hS _ q; rw [h2.1] at this; omega)), LSx_fs h3 hf h8 hn.2.1, LSx_fs h4 hf h8 hn.2.2.1, LSx_fs h5 hf h8 hn.2.2.2⟩
theorem RX.rb {qc qna qdf m : Nat} {S : Nat → Prop} (h : RX t0 qc qna qdf ft tv fh fl pp nn m G ad tg P) (hf : LFs G G' S) (hS : ∀ b, S b → G.1 b = 6 ∨ G.1 b = 7) (hn : ∀ k j, j < cnz k → k = 24 ∨ ¬ S (ad k j)) {ys : List Nat} (hy : LSx t0 G' qc ys) (hl : ys.length ≤ 100) : RB t0 qc qna qdf G' := by
  obtain ⟨h1, h2, h3, -⟩ := h
  have hz := h1.sub (cnz_le P)
  refine ⟨ad, tg, hz.fr hf, h2, h3.fr hz hf (fun b a q => by have := hS b q; omega) (fun k j a b => ?_), ys, by rw [h2.1]; exact hy, hl⟩
  rcases hn k j b with r | r
  · exact absurd r a
  · exact r
theorem RX.rb0 {qc qna qdf m : Nat} (h : RX t0 qc qna qdf ft tv fh fl pp nn m G ad tg P) (hl : P.1 15 ≤ 100) : RB t0 qc qna qdf G := by
  refine h.rb (S := fun _ => False) (LFs.rf G _) (fun _ q => absurd q id) (fun _ _ _ => Or.inr id) (ys := rga (ad 0) 0 (P.1 15)) ?_ (by rw [rga_len]; omega)
  obtain ⟨h1, h2, h3, h4, -⟩ := h
  rw [← h2.1]; exact h4
theorem RX.mono {qc qna qdf m m' : Nat} (h : RX t0 qc qna qdf ft tv fh fl pp nn m G ad tg P) (hm : m ≤ m') : RX t0 qc qna qdf ft tv fh fl pp nn m' G ad tg P := by
  obtain ⟨h1, h2, h3, h4, h5, h6, h7, h8, h9, r1, r2, r3⟩ := h
  exact ⟨h1, h2, h3, h4, h5, h6, h7, h8, h9, fun l hl => Nat.lt_of_lt_of_le (r1 l hl) hm, r2, r3⟩
/-- only tokens were taken -/
theorem RX.go {qc qna qdf m : Nat} (h : RX t0 qc qna qdf ft tv fh fl pp nn m G ad tg P) (e : X.2.2 = P.2.2) (e15 : X.1 15 = P.1 15) (e18 : X.1 18 = P.1 18) (e24 : X.1 24 = P.1 24) (e27 : X.1 27 = P.1 27) (e37 : X.1 37 = P.1 37) : RX t0 qc qna qdf ft tv fh fl pp nn m G ad tg X := by
  have hp : pe X = pe P := by funext c; unfold pe; rw [e, e15, e18]
  have hi : ie X = ie P := by funext c; unfold ie; rw [e, e15, e37]
  have hq : qe X = qe P := by funext c; unfold qe; rw [e, e15, e24]
  have hl : le_ X = le_ P := by funext c; unfold le_; rw [e, e24, e27]
  have hw : wro ft ad X = wro ft ad P := by funext c l; unfold wro; rw [hp, hi, e]
  have hc : cno X = cno P := by funext k; unfold cno; split <;> first | rfl | assumption
  unfold RX RC_ RP_ RI_ RQ_ RL_ RN_ cst rl0 at h ⊢
  rw [hw, hp, hi, hq, hl, hc, e, e15, e18, e24, e27, e37]
  exact h
end REP
theorem m_find_congr {ft : Nat → Int32} {ta ts f g : Nat → Nat} {t : Nat} : ∀ k p, (∀ j, p ≤ j → j < p + k → f j = g j) → m_find ft ta ts f t k p = m_find ft ta ts g t k p
  | 0, _, _ => rfl
  | k + 1, p, h => by
    show (if m_like ft ta ts (f p) t = true then some p else m_find ft ta ts f t k (p + 1)) = (if m_like ft ta ts (g p) t = true then some p else m_find ft ta ts g t k (p + 1))
    rw [h p (Nat.le_refl _) (by omega), m_find_congr k (p + 1) (fun j a b => h j (by omega) (by omega))]
theorem m_find_x1 {ft : Nat → Int32} {ta ts f : Nat → Nat} {t : Nat} : ∀ k p y, m_find ft ta ts f t k p = some y → m_find ft ta ts f t (k + 1) p = some y
  | 0, p, y, h => by cases h
  | k + 1, p, y, h => by
    have h : (if m_like ft ta ts (f p) t = true then some p else m_find ft ta ts f t k (p + 1)) = some y := h
    show (if m_like ft ta ts (f p) t = true then some p else m_find ft ta ts f t (k + 1) (p + 1)) = some y
    split at h
    · rename_i q; rw [if_pos q]; exact h
    · rename_i q; rw [if_neg q]; exact m_find_x1 k (p + 1) y h
theorem m_find_new {ft : Nat → Int32} {ta ts f : Nat → Nat} {t : Nat} : ∀ k p, m_find ft ta ts f t k p = none → m_like ft ta ts (f (p + k)) t = true → m_find ft ta ts f t (k + 1) p = some (p + k)
  | 0, p, _, h => by
    show (if m_like ft ta ts (f p) t = true then some p else none) = _
    rw [if_pos (show m_like ft ta ts (f p) t = true from h)]; rfl
  | k + 1, p, h, hl => by
    have h : (if m_like ft ta ts (f p) t = true then some p else m_find ft ta ts f t k (p + 1)) = none := h
    show (if m_like ft ta ts (f p) t = true then some p else m_find ft ta ts f t (k + 1) (p + 1)) = _
    split at h
    · cases h
    · rename_i q; rw [if_neg q, m_find_new k (p + 1) h (by rw [show p + 1 + k = p + (k + 1) by omega]; exact hl)]; congr 1; omega
theorem m_like_rf (ft : Nat → Int32) (ta ts : Nat → Nat) (t : Nat) : m_like ft ta ts t t = true := by
  unfold m_like
  rw [show decide (ts t = ts t) = true from by simp]
  exact (m_same_all _ _).mpr (fun _ _ _ => rfl)
theorem wro_eq {ft : Nat → Int32} {ad ad' : Nat → Nat → Nat} {P X : PS} {c l : Nat} (e7 : X.2.2.1 7 = P.2.2.1 7) (e8 : X.2.2.1 8 = P.2.2.1 8) (e9 : X.2.2.1 9 = P.2.2.1 9) (e32 : X.2.2.1 32 l = P.2.2.1 32 l) (ep : pe X c = pe P c) (ei : ie X c = ie P c) (e17 : X.2.2.1 17 c = P.2.2.1 17 c) (e36 : X.2.2.1 36 c = P.2.2.1 36 c) (e20 : ∀ j, j < pe P c → X.2.2.1 20 j = P.2.2.1 20 j) (e38 : ∀ j, j < ie P c → X.2.2.1 38 j = P.2.2.1 38 j) (a5 : ∀ j, j < pe P c → ad' 5 j = ad 5 j) (a7 : ∀ j, j < ie P c → ad' 7 j = ad 7 j) : wro ft ad' X c l = wro ft ad P c l := by
  unfold wro
  rw [e7, e8, e9, e32, ep, ei, e17, e36, m_find_congr (f := X.2.2.1 20) (g := P.2.2.1 20) _ _ (fun j a b => e20 j (by omega)), m_find_congr (f := X.2.2.1 38) (g := P.2.2.1 38) _ _ (fun j a b => e38 j (by omega))]
  by_cases q : P.2.2.1 7 (P.2.2.1 32 l) = 1
  · rw [if_pos q, if_pos q]
    rcases e : m_find ft (P.2.2.1 8) (P.2.2.1 9) (P.2.2.1 20) (P.2.2.1 32 l) (pe P c - P.2.2.1 17 c) (P.2.2.1 17 c) with _ | x
    · rcases e2 : m_find ft (P.2.2.1 8) (P.2.2.1 9) (P.2.2.1 38) (P.2.2.1 32 l) (ie P c - P.2.2.1 36 c) (P.2.2.1 36 c) with _ | y
      · rfl
      · have := m_find_in _ _ _ e2
        show some (ad' 7 y) = some (ad 7 y)
        rw [a7 y (by omega)]
    · have := m_find_in _ _ _ e
      show some (ad' 5 x) = some (ad 5 x)
      rw [a5 x (by omega)]
  · rw [if_neg q, if_neg q]
section REP2
variable {t0 qc qna qdf m : Nat} {ft tv : Nat → Int32} {nv : Nat → Nat} {fh fl : Nat → Int64} {pp nn : Nat → Nat} {G G' : PG} {ad : Nat → Nat → Nat} {tg : Nat → Nat × Nat} {P X : PS}
theorem pe_le (hs : SIc nv P) {c : Nat} (hc : c < P.1 15) : pe P c ≤ P.1 18 ∧ P.2.2.1 17 c ≤ pe P c := by
  unfold pe
  split
  · rename_i q; exact ⟨(hs.fm (c + 1) (c + 1) (Nat.le_refl _) q).2, (hs.fm c (c + 1) (by omega) q).1⟩
  · exact ⟨Nat.le_refl _, (hs.fm c c (Nat.le_refl _) hc).2⟩
theorem qe_le (hs : SIq P) {c : Nat} (hc : c < P.1 15) : qe P c ≤ P.1 24 ∧ P.2.2.1 23 c ≤ qe P c := by
  unfold qe
  split
  · rename_i q; exact ⟨(hs.fm (c + 1) (c + 1) (Nat.le_refl _) q).2, (hs.fm c (c + 1) (by omega) q).1⟩
  · exact ⟨Nat.le_refl _, (hs.fm c c (Nat.le_refl _) hc).2⟩
theorem ie_le (hs : SIi ft P) {c : Nat} (hc : c < P.1 15) : ie P c ≤ P.1 37 ∧ P.2.2.1 36 c ≤ ie P c := by
  unfold ie
  split
  · rename_i q; exact ⟨(hs.fm (c + 1) (c + 1) (Nat.le_refl _) q).2, (hs.fm c (c + 1) (by omega) q).1⟩
  · exact ⟨Nat.le_refl _, (hs.fm c c (Nat.le_refl _) hc).2⟩
theorem lle_le (hs : SIl tv P) {q : Nat} (hq : q < P.1 24) : le_ P q ≤ P.1 27 ∧ P.2.2.1 26 q ≤ le_ P q := by
  unfold le_
  split
  · rename_i r; exact ⟨(hs.fm (q + 1) (q + 1) (Nat.le_refl _) r).2, (hs.fm q (q + 1) (by omega) r).1⟩
  · exact ⟨Nat.le_refl _, (hs.fm q q (Nat.le_refl _) hq).2⟩
theorem cnq_lt (n : Nat → Nat) (k0 : Nat) : ∀ k j, j < (if k = k0 then n k + 1 else n k) → j < n k ∨ (k = k0 ∧ j = n k0) := by
  intro k j h
  by_cases e : k = k0
  · subst e
    rw [if_pos rfl] at h
    by_cases q : j < n k
    · exact Or.inl q
    · exact Or.inr ⟨rfl, by omega⟩
  · rw [if_neg e] at h; exact Or.inl h
/-- a new object of kind k0 in the next place -/
theorem RT.put {n : Nat → Nat} {q k0 j0 : Nat} (h : RT G ad tg n) (hq : ∀ k j, j < n k → ad k j ≠ q) (hk : G.1 q = kdo k0) (hj : j0 = n k0) : RT G (up2 ad k0 j0 q) (va_up tg q (k0, j0)) (fun k => if k = k0 then n k + 1 else n k) := by
  subst hj
  exact h.add hq hk (Nat.le_refl _) (cnq_lt n k0)
theorem put_ne {n : Nat → Nat} {q q' k0 j0 : Nat} (hq : ∀ k j, j < n k → ad k j ≠ q') (hn : q ≠ q') (hj : j0 = n k0) : ∀ k j, j < (if k = k0 then n k + 1 else n k) → up2 ad k0 j0 q k j ≠ q' := by
  subst hj
  intro k j h
  rcases cnq_lt n k0 k j h with r | r
  · by_cases e : k = k0 ∧ j = n k0
    · rw [e.1, e.2] at r; omega
    · rw [show up2 ad k0 (n k0) q k j = ad k j from if_neg e]; exact hq k j r
  · rw [r.1, r.2, up2_s]; exact hn
/-- no object has this address -/
def frh (G : PG) (q : Nat) : Prop := ¬ (0 < G.1 q ∧ G.1 q < 8)
theorem frh0 {q : Nat} (h0 : G.1 q = 0) : frh G q := fun e => by omega
theorem frh.fr {S : Nat → Prop} {q : Nat} (h : frh G' q) (hf : LFs G G' S) : frh G q := fun e => h (by rw [hf.1 q (by omega) e.2]; exact e)
theorem RT.fre {n : Nat → Nat} {q : Nat} (h : RT G ad tg n) (h0 : frh G q) : ∀ k j, j < n k → ad k j ≠ q := fun k j hj e => h0 (by have := h.k0 hj; rw [e] at this; omega)
theorem cno_k (P : PS) (k : Nat) : cno P k = if k < 5 then P.1 15 else if k < 7 then P.1 18 else if k = 7 then P.1 37 else if k = 8 then 0 else if k < 12 then P.1 24 else if k < 17 then P.1 27 else if k < 22 then 2 else if k < 24 then 5 else if k = 24 then 1 else 0 := by
  unfold cno
  split <;> try rfl
  rename_i h1 h2 h3 h4 h5 h6 h7 h8 h9 h10 h11 h12 h13 h14 h15 h16 h17 h18 h19 h20 h21 h22 h23 h24
  simp only [imp_false] at *
  rw [if_neg (by omega), if_neg (by omega), if_neg (by omega)]
  by_cases e : k = 8
  · rw [if_pos e]
  · rw [if_neg e, if_neg (by omega), if_neg (by omega), if_neg (by omega), if_neg (by omega), if_neg (by omega)]
theorem cno_pin {ob : Bool} (x : pis nv ob P X) : cno X = fun k => if k = 6 then (fun k => if k = 5 then cno P k + 1 else cno P k) k + 1 else (fun k => if k = 5 then cno P k + 1 else cno P k) k := by
  funext k
  show _ = if k = 6 then (if k = 5 then cno P k + 1 else cno P k) + 1 else (if k = 5 then cno P k + 1 else cno P k)
  rw [cno_k X, cno_k P, x.e15, x.e18, x.e24, x.e27, x.e37]
  by_cases e6 : k = 6
  · subst e6; rfl
  · by_cases e5 : k = 5
    · subst e5; rfl
    · rw [if_neg e6, if_neg e5]
      by_cases e : k < 5
      · rw [if_pos e, if_pos e]
      · rw [if_neg e, if_neg e, if_neg (show ¬ k < 7 by omega), if_neg (show ¬ k < 7 by omega)]
/-- a pin was read -/
theorem RX.pin {ob : Bool} (h : RX t0 qc qna qdf ft tv fh fl pp nn m G ad tg P) (hsc : SIc nv P) (hsq : SIq P) (hsi : SIi ft P) (x : pis nv ob P X) (h15 : 1 ≤ P.1 15) (hm : m + 1 ≤ P.1 15) {w nm : Nat} (w0 : frh G w) (n0 : frh G nm) (iN : isT fh fl pp G' nm (P.1 12)) (iV : isV G' w nm (if ob = true then 1 else 0) (X.2.2.1 21 (P.1 18)) (pwd nn pp (X.2.2.2.1 22 (P.1 18))).2) (hl : LSx t0 G' (ad 2 (P.1 15 - 1)) (rga (ad 5) (P.2.2.1 17 (P.1 15 - 1)) (P.1 18) ++ [w])) (hfa : LFa G G' (ad 2 (P.1 15 - 1)) (ad 0 (P.1 15 - 1))) (hc0 : gs (if ob = true then G else gN G (ad 0 (P.1 15 - 1)) 6 (G.2.1 (ad 0 (P.1 15 - 1)) 6 + 1)) G' (ad 0 (P.1 15 - 1))) :
    ∃ ad' tg', RX t0 qc qna qdf ft tv fh fl pp nn m G' ad' tg' X ∧ ad' 0 (X.1 15 - 1) = ad 0 (P.1 15 - 1) := by
  obtain ⟨hT, hq, hG, hC, rc, rp, ri, rq, rl, n1, n2, n3⟩ := h
  generalize hcc : P.1 15 - 1 = c at *
  have hc : c < P.1 15 := by omega
  have kc : G.1 (ad 0 c) = 6 := (hT 0 c hc).1
  have kl : G.1 (ad 2 c) = 7 := (hT 2 c hc).1
  have hf : LFs G G' (fun b => b = ad 2 c ∨ b = ad 0 c) := LFs_LFa hfa kl hl.k.1 (by rw [hc0.1]; split <;> rfl)
  have hS : ∀ b, (fun b => b = ad 2 c ∨ b = ad 0 c) b → G.1 b = 6 ∨ G.1 b = 7 := fun b q => by rcases q with q | q <;> rw [q] <;> omega
  have h8 : ∀ b, 8 ≤ G.1 b → ¬ (fun b => b = ad 2 c ∨ b = ad 0 c) b := fun b a q => by have := hS b q; omega
  have nS : ∀ k j, j < cno P k → ¬ (k = 2 ∧ j = c) → ¬ (k = 0 ∧ j = c) → ¬ (ad k j = ad 2 c ∨ ad k j = ad 0 c) := fun k j a b d q => by
    rcases q with q | q
    · exact hT.ne a (show c < cno P 2 from hc) b q
    · exact hT.ne a (show c < cno P 0 from hc) d q
  have a5 : ∀ j, j < P.1 18 → up2 (up2 ad 5 (P.1 18) w) 6 (P.1 18) nm 5 j = ad 5 j := fun j hj => by rw [up2_r _ _ _ (by decide), up2_k _ _ _ _ (by omega)]
  have a6 : ∀ j, j < P.1 18 → up2 (up2 ad 5 (P.1 18) w) 6 (P.1 18) nm 6 j = ad 6 j := fun j hj => by rw [up2_k _ _ _ _ (by omega), up2_r _ _ _ (by decide)]
  have ak : ∀ k, k ≠ 5 → k ≠ 6 → up2 (up2 ad 5 (P.1 18) w) 6 (P.1 18) nm k = ad k := fun k a b => by rw [up2_r _ _ _ b, up2_r _ _ _ a]
  have hwn : w ≠ nm := fun e => by have := iV.1; rw [e, iN.1] at this; cases this
  have pX : ∀ c', pe X c' = if c' + 1 < P.1 15 then P.2.2.1 17 (c' + 1) else P.1 18 + 1 := fun c' => by unfold pe; rw [x.e15, x.e18, x.fr 17 _ (Or.inl (by decide))]
  have iX : ∀ c', ie X c' = ie P c' := fun c' => by unfold ie; rw [x.e15, x.e37, x.fr 36 _ (Or.inl (by decide))]
  have qX : ∀ c', qe X c' = qe P c' := fun c' => by unfold qe; rw [x.e15, x.e24, x.fr 23 _ (Or.inl (by decide))]
  have lX : ∀ q, le_ X q = le_ P q := fun c' => by unfold le_; rw [x.e24, x.e27, x.fr 26 _ (Or.inl (by decide))]
  have pc : pe P c = P.1 18 := by unfold pe; rw [if_neg (by omega)]
  have row : ∀ k, k ≠ 20 → k ≠ 21 → X.2.2.1 k = P.2.2.1 k := fun k a b => by funext j; exact x.fr k j (Or.inl ⟨a, b⟩)
  have wold : ∀ l, l < P.1 27 → wro ft (up2 (up2 ad 5 (P.1 18) w) 6 (P.1 18) nm) X ((up2 (up2 ad 5 (P.1 18) w) 6 (P.1 18) nm) 32 l) l = wro ft ad P (ad 32 l) l := by
    intro l hl'
    have b1 := n1 l hl'
    have e1 : ad 32 l + 1 < P.1 15 := by omega
    have pl := pe_le hsc (show ad 32 l < P.1 15 by omega)
    rw [ak 32 (by decide) (by decide)]
    refine wro_eq (row 7 (by decide) (by decide)) (row 8 (by decide) (by decide)) (row 9 (by decide) (by decide)) (by rw [row 32 (by decide) (by decide)]) ?_ (iX _) (by rw [row 17 (by decide) (by decide)]) (by rw [row 36 (by decide) (by decide)]) (fun j hj => x.fr 20 j (Or.inr (by omega))) (fun j _ => by rw [row 38 (by decide) (by decide)]) (fun j hj => a5 j (by omega)) (fun j _ => by rw [ak 7 (by decide) (by decide)])
    rw [pX, if_pos e1]; unfold pe; rw [if_pos e1]
  refine ⟨up2 (up2 ad 5 (P.1 18) w) 6 (P.1 18) nm, va_up (va_up tg w (5, P.1 18)) nm (6, P.1 18), ⟨?_, ?_, ?_, ?_, ?_, ?_, ?_, ?_, ?_, ?_⟩, ?_⟩
  · rw [cno_pin x]
    refine RT.put (RT.put (hT.fr hf) (hT.fre w0) iV.1 rfl) (put_ne (hT.fre n0) hwn rfl) iN.1 ?_
    rfl
  · rw [ak 24 (by decide) (by decide), ak 17 (by decide) (by decide)]; exact hq
  · have : GT t0 G' ad := hG.fr (hT.sub (cnz_le P)) hf h8 (fun k j a b => nS k j (Nat.lt_of_lt_of_le b (cnz_le P k)) (fun q => by rw [q.1] at b; exact absurd b (Nat.not_lt_zero _)) (fun q => by rw [q.1] at b; exact absurd b (Nat.not_lt_zero _)))
    unfold GT at this ⊢
    rw [ak 17 (by decide) (by decide), ak 18 (by decide) (by decide), ak 19 (by decide) (by decide), ak 20 (by decide) (by decide), ak 21 (by decide) (by decide), ak 22 (by decide) (by decide), ak 23 (by decide) (by decide)]
    exact this
  · rw [ak 24 (by decide) (by decide), ak 0 (by decide) (by decide), x.e15]
    exact LSx_fs hC hf h8 (nS 24 0 (show 0 < 1 by decide) (by omega) (by omega))
  · intro c' hc'
    rw [x.e15] at hc'
    have pl := pe_le hsc hc'
    have ql := qe_le hsq hc'
    have il := ie_le hsi hc'
    by_cases e : c' = c
    · subst e
      obtain ⟨r1, r2, r3, r4, r5⟩ := rc c' hc'
      rw [pc] at r1
      unfold RC_
      rw [pX, if_neg (by omega), iX, qX, row 16 (by decide) (by decide), row 17 (by decide) (by decide), row 23 (by decide) (by decide), row 36 (by decide) (by decide), ak 0 (by decide) (by decide), ak 1 (by decide) (by decide), ak 2 (by decide) (by decide), ak 3 (by decide) (by decide), ak 4 (by decide) (by decide), ak 7 (by decide) (by decide), ak 9 (by decide) (by decide)]
      have p1 : P.2.2.1 17 c' ≤ P.1 18 := (hsc.fm c' c' (Nat.le_refl _) hc').2
      refine ⟨?_, r2.keep (hf.gs (by rw [r2.1]; decide) (by rw [r2.1]; decide) (fun q => by have := hS _ q; rw [r2.1] at this; omega)), ?_, LSx_fs r4 hf h8 (nS 3 c' hc' (by omega) (by omega)), LSx_fs r5 hf h8 (nS 4 c' hc' (by omega) (by omega))⟩
      · rw [show P.1 18 + 1 - P.2.2.1 17 c' = (P.1 18 - P.2.2.1 17 c') + 1 by omega]
        show isC _ _ _ _ _ _ _ _ (icn _ _ (P.1 18 - P.2.2.1 17 c') + _)
        rw [show P.2.2.1 17 c' + (P.1 18 - P.2.2.1 17 c') = P.1 18 by omega, x.v19, icn_eq (g := P.2.2.2.2 19) _ (fun j a b => x.fb 19 j (Or.inr (by omega)))]
        by_cases ho : ob = true
        · rw [if_pos ho] at hc0 ⊢
          exact r1.keep hc0
        · rw [if_neg ho] at hc0 ⊢
          refine isC.keep (G := gN G (ad 0 c') 6 (G.2.1 (ad 0 c') 6 + 1)) ?_ hc0
          obtain ⟨s1, s2, s3, s4, s5, s6, s7, s8⟩ := r1
          refine ⟨s1, s2, ?_, ?_, s5, s6, s7, ?_⟩
          · show up2 G.2.1 _ 6 _ _ 1 = _; rw [up2_k _ _ _ _ (by decide)]; exact s3
          · show up2 G.2.1 _ 6 _ _ 2 = _; rw [up2_k _ _ _ _ (by decide)]; exact s4
          · show up2 G.2.1 _ 6 _ _ 6 = _; rw [up2_s, s8]
      · rw [rga_snoc p1, rga_eq (g := ad 5) (fun j _ b => a5 j b), show up2 (up2 ad 5 (P.1 18) w) 6 (P.1 18) nm 5 (P.1 18) = w by rw [up2_r _ _ _ (by decide), up2_s]]
        exact hl
    · have e1 : c' + 1 < P.1 15 := by omega
      refine RC_.keep (rc c' hc') hf hS ⟨nS 0 c' hc' (by omega) (by omega), nS 2 c' hc' (by omega) (by omega), nS 3 c' hc' (by omega) (by omega), nS 4 c' hc' (by omega) (by omega)⟩ (fun k hk => x.fr k c' (Or.inl (by omega))) ⟨?_, iX c', qX c'⟩ (fun j hj => x.fb 19 j (Or.inr (by omega))) (fun k hk => by rw [ak k (by omega) (by omega)]) (fun j hj => a5 j (by omega)) (fun j _ => by rw [ak 7 (by decide) (by decide)]) (fun j _ => by rw [ak 9 (by decide) (by decide)])
      rw [pX, if_pos e1]; unfold pe; rw [if_pos e1]
  · intro p hp
    rw [x.e18] at hp
    by_cases e : p = P.1 18
    · subst e
      unfold RP_
      rw [x.v19, x.v20, show up2 (up2 ad 5 (P.1 18) w) 6 (P.1 18) nm 5 (P.1 18) = w by rw [up2_r _ _ _ (by decide), up2_s], up2_s]
      exact ⟨iV, iN⟩
    · exact RP_.keep (rp p (by omega)) hf hS (x.fb 19 p (Or.inr e)) (x.fr 20 p (Or.inr e)) (x.fr 21 p (Or.inr e)) (x.fo 22 p (Or.inr e)) (a5 p (by omega)) (a6 p (by omega))
  · intro i hi
    rw [x.e37] at hi
    exact RI_.keep (ri i hi) hf hS (x.fr 38 i (Or.inl (by decide))) (by rw [ak 7 (by decide) (by decide)]) (by rw [ak 8 (by decide) (by decide)])
  · intro q hq'
    rw [x.e24] at hq'
    refine RQ_.keep (rq q hq') hf hS (x.fr 25 q (Or.inl (by decide))) (by rw [ak 9 (by decide) (by decide)]) (by rw [ak 10 (by decide) (by decide)]) (by rw [ak 11 (by decide) (by decide)]) ?_
    rw [ak 12 (by decide) (by decide), lX, row 26 (by decide) (by decide)]
    exact LSx_fs (rq q hq').2.2 hf h8 (nS 11 q hq' (by omega) (by omega))
  · intro l hl'
    rw [x.e27] at hl'
    exact RL_.keep (rl l hl') hf hS (fun k hk => x.fr k l (Or.inl (by omega))) (fun k hk => x.fo k l (Or.inl (by omega))) (row 7 (by decide) (by decide)) (fun k a b => by rw [ak k (by omega) (by omega)]) (wold l hl')
  · unfold RN_
    rw [x.e27, x.e24, x.e15, ak 32 (by decide) (by decide), ak 33 (by decide) (by decide), row 26 (by decide) (by decide), row 23 (by decide) (by decide)]
    refine ⟨n1, fun q l a b c => n2 q l a b (by rw [← lX]; exact c), fun c q a b d => n3.1 c q a b (by rw [← qX]; exact d), fun i hi => ?_⟩
    obtain ⟨l, a, b, d, e, f⟩ := n3.2 i (by rw [← x.e37]; exact hi)
    have w9 := wold l a
    rw [ak 32 (by decide) (by decide)] at w9
    exact ⟨l, a, by rw [row 38 (by decide) (by decide), row 32 (by decide) (by decide)]; exact b, by rw [row 36 (by decide) (by decide)]; exact d, by rw [iX]; exact e, by rw [w9, ak 7 (by decide) (by decide)]; exact f⟩
  · rw [ak 0 (by decide) (by decide), x.e15, hcc]
end REP2
