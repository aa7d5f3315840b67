/-! The pool while the checks go through it: what stays -/
def isVf (G : PG) (w nm k wd : Nat) (b : Option Nat) : Prop := G.1 w = 2 ∧ G.2.2.2.2.2 w 0 = some nm ∧ G.2.1 w 1 = k ∧ G.2.1 w 2 = wd ∧ G.2.2.1 w 3 = b
def isWf (G : PG) (w nm : Nat) : Prop := G.1 w = 2 ∧ G.2.2.2.2.2 w 0 = some nm ∧ G.2.1 w 1 = 2
def isQf (G : PG) (q nm ls : Nat) : Prop := G.1 q = 5 ∧ G.2.2.2.2.2 q 0 = some nm ∧ G.2.2.2.2.2 q 1 = some ls
def isKf (G : PG) (k s1 s2 : Nat) (wo : Option Nat) : Prop := G.1 k = 4 ∧ G.2.2.2.2.2 k 0 = some s1 ∧ G.2.2.2.2.2 k 1 = some s2 ∧ G.2.2.2.2.2 k 3 = wo
/-- the checks change no other places than these: 2 width (of an inner name), 4 offset, 5 linked bits, 6 given of a wire; 7, 8 of a chip; 2 of a link (pin) and of a part (chip) -/
def sq (G G' : PG) : Prop := G'.1 = G.1 ∧ G'.2.2.1 = G.2.2.1 ∧ G'.2.2.2.2.1 = G.2.2.2.2.1 ∧ (∀ b k, k ≠ 2 → k ≠ 4 → k ≠ 5 → k ≠ 7 → k ≠ 8 → G'.2.1 b k = G.2.1 b k) ∧ (∀ b, ¬ (G.1 b = 2 ∧ G.2.1 b 1 = 2) → G'.2.1 b 2 = G.2.1 b 2) ∧ (∀ b, G.1 b ≠ 2 → G'.2.1 b 4 = G.2.1 b 4 ∧ G'.2.1 b 5 = G.2.1 b 5) ∧ (∀ b, G.1 b ≠ 6 → G'.2.1 b 7 = G.2.1 b 7 ∧ G'.2.1 b 8 = G.2.1 b 8) ∧ (∀ b k, k ≠ 2 → G'.2.2.2.2.2 b k = G.2.2.2.2.2 b k) ∧ ∀ b, G.1 b ≠ 4 → G.1 b ≠ 5 → G'.2.2.2.2.2 b 2 = G.2.2.2.2.2 b 2
theorem sq.rf (G : PG) : sq G G := ⟨rfl, rfl, rfl, fun _ _ _ _ _ _ _ => rfl, fun _ _ => rfl, fun _ _ => ⟨rfl, rfl⟩, fun _ _ => ⟨rfl, rfl⟩, fun _ _ _ => rfl, fun _ _ _ => rfl⟩
theorem sq.tr {G G1 G2 : PG} (h : sq G G1) (h2 : sq G1 G2) : sq G G2 := by
  obtain ⟨a1, a2, a3, a4, a5, a6, a7, a8, a9⟩ := h
  obtain ⟨b1, b2, b3, b4, b5, b6, b7, b8, b9⟩ := h2
  refine ⟨b1.trans a1, b2.trans a2, b3.trans a3, fun b k h1 h2 h3 h4 h5 => (b4 b k h1 h2 h3 h4 h5).trans (a4 b k h1 h2 h3 h4 h5), fun b h => ?_, fun b h => ?_, fun b h => ?_, fun b k h => (b8 b k h).trans (a8 b k h), fun b h1 h2 => ?_⟩
  · rw [b5 b (by rw [a1, a4 b 1 (by decide) (by decide) (by decide) (by decide) (by decide)]; exact h)]; exact a5 b h
  · rw [(b6 b (by rw [a1]; exact h)).1, (b6 b (by rw [a1]; exact h)).2]; exact a6 b h
  · rw [(b7 b (by rw [a1]; exact h)).1, (b7 b (by rw [a1]; exact h)).2]; exact a7 b h
  · rw [b9 b (by rw [a1]; exact h1) (by rw [a1]; exact h2)]; exact a9 b h1 h2
theorem sq_5 {G : PG} {a v : Nat} (h : G.1 a = 2) : sq G (gN G a 5 v) := by
  refine ⟨rfl, rfl, rfl, fun b k _ _ h3 _ _ => up2_k _ _ _ _ h3, fun b _ => up2_k _ _ _ _ (by decide), fun b hb => ⟨up2_k _ _ _ _ (by decide), up2_a _ _ _ _ (fun e => hb (by rw [e]; exact h))⟩, fun b _ => ⟨up2_k _ _ _ _ (by decide), up2_k _ _ _ _ (by decide)⟩, fun _ _ _ => rfl, fun _ _ _ => rfl⟩
theorem sq_2 {G : PG} {a v : Nat} (h : G.1 a = 2) (h2 : G.2.1 a 1 = 2) : sq G (gN G a 2 v) := by
  refine ⟨rfl, rfl, rfl, fun b k h1 _ _ _ _ => up2_k _ _ _ _ h1, fun b hb => up2_a _ _ _ _ (fun e => hb (by rw [e]; exact ⟨h, h2⟩)), fun b hb => ⟨up2_k _ _ _ _ (by decide), up2_k _ _ _ _ (by decide)⟩, fun b _ => ⟨up2_k _ _ _ _ (by decide), up2_k _ _ _ _ (by decide)⟩, fun _ _ _ => rfl, fun _ _ _ => rfl⟩
theorem sq_B {G : PG} {a : Nat} {v : Bool} {k : Nat} : sq G (gB G a k v) := ⟨rfl, rfl, rfl, fun _ _ _ _ _ _ _ => rfl, fun _ _ => rfl, fun _ _ => ⟨rfl, rfl⟩, fun _ _ => ⟨rfl, rfl⟩, fun _ _ _ => rfl, fun _ _ _ => rfl⟩
theorem sq_R {G : PG} {a : Nat} {v : Option Nat} (h : G.1 a = 4 ∨ G.1 a = 5) : sq G (gR G a 2 v) := ⟨rfl, rfl, rfl, fun _ _ _ _ _ _ _ => rfl, fun _ _ => rfl, fun _ _ => ⟨rfl, rfl⟩, fun _ _ => ⟨rfl, rfl⟩, fun b k hk => up2_k _ _ _ _ hk, fun b h1 h2 => up2_a _ _ _ _ (fun e => by rw [e] at h1 h2; omega)⟩
section SQK
variable {t0 : Nat} {G G' : PG} {fh fl : Nat → Int64} {pp : Nat → Nat}
theorem isT.sq {a t : Nat} (h : isT fh fl pp G a t) (s : sq G G') : isT fh fl pp G' a t := by
  obtain ⟨h1, h2, h3, h4⟩ := h
  exact ⟨by rw [s.1]; exact h1, by rw [s.2.2.1]; exact h2, by rw [s.2.2.1]; exact h3, by rw [s.2.1]; exact h4⟩
theorem isN.sq {a : Nat} {hh tt : Int64} {pl : Option Nat} (h : isN G a hh tt pl) (s : sq G G') : isN G' a hh tt pl := by
  obtain ⟨h1, h2, h3, h4⟩ := h
  exact ⟨by rw [s.1]; exact h1, by rw [s.2.2.1]; exact h2, by rw [s.2.2.1]; exact h3, by rw [s.2.1]; exact h4⟩
theorem isC.sq {a nm gt ix l1 l2 l3 ip : Nat} (h : isC G a nm gt ix l1 l2 l3 ip) (s : sq G G') : isC G' a nm gt ix l1 l2 l3 ip := by
  obtain ⟨s1, s2, s3, s4, s5, s6, s7, s8, s9⟩ := s
  obtain ⟨h1, h2, h3, h4, h5, h6, h7, h8⟩ := h
  exact ⟨by rw [s1]; exact h1, by rw [s8 _ _ (by decide)]; exact h2, by rw [s4 _ _ (by decide) (by decide) (by decide) (by decide) (by decide)]; exact h3, by rw [s5 _ (fun e => by rw [h1] at e; exact absurd e.1 (by decide))]; exact h4, by rw [s8 _ _ (by decide)]; exact h5, by rw [s8 _ _ (by decide)]; exact h6, by rw [s8 _ _ (by decide)]; exact h7, by rw [s4 _ _ (by decide) (by decide) (by decide) (by decide) (by decide)]; exact h8⟩
theorem isVf.sq {w nm k wd : Nat} {b : Option Nat} (h : isVf G w nm k wd b) (hk : k ≠ 2) (s : sq G G') : isVf G' w nm k wd b := by
  obtain ⟨s1, s2, s3, s4, s5, s6, s7, s8, s9⟩ := s
  obtain ⟨h1, h2, h3, h4, h5⟩ := h
  exact ⟨by rw [s1]; exact h1, by rw [s8 _ _ (by decide)]; exact h2, by rw [s4 _ _ (by decide) (by decide) (by decide) (by decide) (by decide)]; exact h3, by rw [s5 _ (fun e => hk (by rw [← h3]; exact e.2))]; exact h4, by rw [s2]; exact h5⟩
theorem isWf.sq {w nm : Nat} (h : isWf G w nm) (s : sq G G') : isWf G' w nm := by
  obtain ⟨s1, s2, s3, s4, s5, s6, s7, s8, s9⟩ := s
  exact ⟨by rw [s1]; exact h.1, by rw [s8 _ _ (by decide)]; exact h.2.1, by rw [s4 _ _ (by decide) (by decide) (by decide) (by decide) (by decide)]; exact h.2.2⟩
theorem isQf.sq {q nm ls : Nat} (h : isQf G q nm ls) (s : sq G G') : isQf G' q nm ls := ⟨by rw [s.1]; exact h.1, by rw [s.2.2.2.2.2.2.2.1 _ _ (by decide)]; exact h.2.1, by rw [s.2.2.2.2.2.2.2.1 _ _ (by decide)]; exact h.2.2⟩
theorem isKf.sq {k s1 s2 : Nat} {wo : Option Nat} (h : isKf G k s1 s2 wo) (s : sq G G') : isKf G' k s1 s2 wo := ⟨by rw [s.1]; exact h.1, by rw [s.2.2.2.2.2.2.2.1 _ _ (by decide)]; exact h.2.1, by rw [s.2.2.2.2.2.2.2.1 _ _ (by decide)]; exact h.2.2.1, by rw [s.2.2.2.2.2.2.2.1 _ _ (by decide)]; exact h.2.2.2⟩
theorem isS.sq {x nm lo hi : Nat} {co ro : Option Nat} (h : isS G x nm co ro lo hi) (s : sq G G') : isS G' x nm co ro lo hi := by
  obtain ⟨s1, s2, s3, s4, s5, s6, s7, s8, s9⟩ := s
  obtain ⟨h1, h2, h3, h4, h5, h6⟩ := h
  exact ⟨by rw [s1]; exact h1, by rw [s8 _ _ (by decide)]; exact h2, by rw [s2]; exact h3, by rw [s2]; exact h4, by rw [s4 _ _ (by decide) (by decide) (by decide) (by decide) (by decide)]; exact h5, by rw [(s6 _ (by rw [h1]; decide)).1]; exact h6⟩
theorem LSx.sq {l : Nat} {xs : List Nat} (h : LSx t0 G l xs) (s : sq G G') : LSx t0 G' l xs := by
  obtain ⟨s1, s2, s3, s4, s5, s6, s7, s8, s9⟩ := s
  have r : ∀ b j, 7 ≤ G.1 b → G'.2.2.2.2.2 b j = G.2.2.2.2.2 b j := fun b j h => by
    by_cases e : j = 2
    · rw [e]; exact s9 b (by omega) (by omega)
    · exact s8 b j e
  rcases h with ⟨h1, h2, h3, h4⟩ | ⟨d, n, h1, h2, h3, h4, h5, h6, h7, h8, h9⟩
  · exact Or.inl ⟨by rw [s1]; exact h1, by rw [s4 _ _ (by decide) (by decide) (by decide) (by decide) (by decide)]; exact h2, by rw [r _ _ (by omega)]; exact h3, h4⟩
  · exact Or.inr ⟨d, n, by rw [s1]; exact h1, by rw [s4 _ _ (by decide) (by decide) (by decide) (by decide) (by decide)]; exact h2, by rw [r _ _ (by omega)]; exact h3, by rw [s1]; exact h4, h5, h6, by rw [s4 _ _ (by decide) (by decide) (by decide) (by decide) (by decide)]; exact h7, fun i hi => by rw [r _ _ (by omega)]; exact h8 i hi, fun x hx => by rw [s1]; exact h9 x hx⟩
end SQK
/-- the two gates: what stays -/
def GF (t0 : Nat) (G : PG) (ad : Nat → Nat → Nat) : Prop :=
  isC G (ad 17 0) (ad 18 0) 1 0 (ad 19 0) (ad 20 0) (ad 21 0) 2 ∧ isC G (ad 17 1) (ad 18 1) 2 0 (ad 19 1) (ad 20 1) (ad 21 1) 1 ∧
  isN G (ad 18 0) 0x4E616E64 0 none ∧ isN G (ad 18 1) 0x446666 0 none ∧ LSx t0 G (ad 19 0) [ad 22 0, ad 22 1, ad 22 2] ∧ LSx t0 G (ad 19 1) [ad 22 3, ad 22 4] ∧ (∀ g, g < 2 → LSx t0 G (ad 20 g) [] ∧ LSx t0 G (ad 21 g) []) ∧
  (∀ j, j < 5 → isVf G (ad 22 j) (ad 23 j) (if j = 2 ∨ j = 4 then 1 else 0) 1 none) ∧
  isN G (ad 23 0) 97 0 none ∧ isN G (ad 23 1) 98 0 none ∧ isN G (ad 23 2) 0x6F7574 0 none ∧ isN G (ad 23 3) 0x696E 0 none ∧ isN G (ad 23 4) 0x6F7574 0 none
theorem GF.sq {t0 : Nat} {G G' : PG} {ad : Nat → Nat → Nat} (h : GF t0 G ad) (s : sq G G') : GF t0 G' ad := by
  obtain ⟨h1, h2, h3, h4, h5, h6, h7, h8, h9, h10, h11, h12, h13⟩ := h
  exact ⟨h1.sq s, h2.sq s, h3.sq s, h4.sq s, h5.sq s, h6.sq s, fun g hg => ⟨(h7 g hg).1.sq s, (h7 g hg).2.sq s⟩, fun j hj => (h8 j hj).sq (by split <;> decide) s, h9.sq s, h10.sq s, h11.sq s, h12.sq s, h13.sq s⟩
/-- the wire that a link's right side names, once all rows are told -/
def wrk (ft : Nat → Int32) (ad : Nat → Nat → Nat) (P : PS) (c l : Nat) : Option Nat :=
  if P.2.2.1 7 (P.2.2.1 32 l) = 1 then (match q_own ft P c (P.2.2.1 32 l) with
    | some x => some (ad 5 x)
    | none => (q_inn ft P c (P.2.2.1 32 l)).map (ad 7)) else none
def inl (P : PS) (c q l : Nat) : Prop := c < P.1 15 ∧ (P.2.2.1 23 c ≤ q ∧ q < P.2.2.1 23 (c + 1)) ∧ (P.2.2.1 26 q ≤ l ∧ l < P.2.2.1 26 (q + 1))
def RFC (t0 : Nat) (fh fl : Nat → Int64) (pp : Nat → Nat) (G : PG) (ad : Nat → Nat → Nat) (P : PS) (c : Nat) : Prop :=
  isC G (ad 0 c) (ad 1 c) 0 c (ad 2 c) (ad 3 c) (ad 4 c) (icn (P.2.2.2.2 19) (P.2.2.1 17 c) (P.2.2.1 17 (c + 1) - P.2.2.1 17 c)) ∧ isT fh fl pp G (ad 1 c) (P.2.2.1 16 c) ∧ LSx t0 G (ad 2 c) (rga (ad 5) (P.2.2.1 17 c) (P.2.2.1 17 (c + 1))) ∧ LSx t0 G (ad 3 c) (rga (ad 7) (P.2.2.1 36 c) (P.2.2.1 36 (c + 1))) ∧ LSx t0 G (ad 4 c) (rga (ad 9) (P.2.2.1 23 c) (P.2.2.1 23 (c + 1)))
def RFL (ft tv : Nat → Int32) (fh fl : Nat → Int64) (pp : Nat → Nat) (G : PG) (ad : Nat → Nat → Nat) (P : PS) (c l : Nat) : Prop :=
  isKf G (ad 12 l) (ad 13 l) (ad 15 l) (wrk ft ad P c l) ∧ isS G (ad 13 l) (ad 14 l) none ((P.2.2.2.1 29 l).map pp) (P.2.2.1 30 l) (P.2.2.1 31 l) ∧ isT fh fl pp G (ad 14 l) (P.2.2.1 28 l) ∧ isS G (ad 15 l) (ad 16 l) (cst tv P l) ((P.2.2.2.1 33 l).map pp) (rl0 P 34 l) (rl0 P 35 l) ∧ isT fh fl pp G (ad 16 l) (P.2.2.1 32 l) ∧ (P.2.2.1 7 (P.2.2.1 32 l) = 1 → wrk ft ad P c l ≠ none)
def RF (t0 qc qna qdf : Nat) (ft tv : Nat → Int32) (fh fl : Nat → Int64) (pp nn : Nat → Nat) (G : PG) (ad : Nat → Nat → Nat) (tg : Nat → Nat × Nat) (P : PS) : Prop :=
  RT G ad tg (cno P) ∧ (ad 24 0 = qc ∧ ad 17 0 = qna ∧ ad 17 1 = qdf) ∧ GF t0 G ad ∧ LSx t0 G (ad 24 0) (rga (ad 0) 0 (P.1 15)) ∧
  (∀ c, c < P.1 15 → RFC t0 fh fl pp G ad P c) ∧ (∀ p, p < P.1 18 → isVf G (ad 5 p) (ad 6 p) (if P.2.2.2.2 19 p = true then 1 else 0) (P.2.2.1 21 p) (pwd nn pp (P.2.2.2.1 22 p)).2 ∧ isT fh fl pp G (ad 6 p) (P.2.2.1 20 p)) ∧ (∀ i, i < P.1 37 → isWf G (ad 7 i) (ad 8 i) ∧ isT fh fl pp G (ad 8 i) (P.2.2.1 38 i)) ∧
  (∀ q, q < P.1 24 → isQf G (ad 9 q) (ad 10 q) (ad 11 q) ∧ isT fh fl pp G (ad 10 q) (P.2.2.1 25 q) ∧ LSx t0 G (ad 11 q) (rga (ad 12) (P.2.2.1 26 q) (P.2.2.1 26 (q + 1)))) ∧ (∀ c q l, inl P c q l → RFL ft tv fh fl pp G ad P c l) ∧ ∀ c i, c < P.1 15 → P.2.2.1 36 c ≤ i → i < P.2.2.1 36 (c + 1) → ∃ q l, inl P c q l ∧ P.2.2.1 38 i = P.2.2.1 32 l ∧ wrk ft ad P c l = some (ad 7 i)
theorem RF.sq {t0 qc qna qdf : Nat} {ft tv : Nat → Int32} {fh fl : Nat → Int64} {pp nn : Nat → Nat} {G G' : PG} {ad : Nat → Nat → Nat} {tg : Nat → Nat × Nat} {P : PS} (h : RF t0 qc qna qdf ft tv fh fl pp nn G ad tg P) (s : sq G G') : RF t0 qc qna qdf ft tv fh fl pp nn G' ad tg P := by
  obtain ⟨h1, h2, h3, h4, h5, h6, h7, h8, h9, h10⟩ := h
  refine ⟨fun k j hj => by rw [s.1]; exact h1 k j hj, h2, h3.sq s, h4.sq s, fun c hc => ?_, fun p hp => ⟨(h6 p hp).1.sq (by split <;> decide) s, (h6 p hp).2.sq s⟩, fun i hi => ⟨(h7 i hi).1.sq s, (h7 i hi).2.sq s⟩, fun q hq => ⟨(h8 q hq).1.sq s, (h8 q hq).2.1.sq s, (h8 q hq).2.2.sq s⟩, fun c q l hl => ?_, h10⟩
  · obtain ⟨a1, a2, a3, a4, a5⟩ := h5 c hc
    exact ⟨a1.sq s, a2.sq s, a3.sq s, a4.sq s, a5.sq s⟩
  · obtain ⟨a1, a2, a3, a4, a5, a6⟩ := h9 c q l hl
    exact ⟨a1.sq s, a2.sq s, a3.sq s, a4.sq s, a5.sq s, a6⟩
/-- as the parser left the wires: nothing linked, nothing given; no link has its pin, no part its chip -/
def FR0 (G : PG) (ad : Nat → Nat → Nat) (P : PS) : Prop := (∀ p, p < P.1 18 → G.2.1 (ad 5 p) 5 = 0) ∧ (∀ i, i < P.1 37 → G.2.1 (ad 7 i) 2 = 1 ∧ G.2.1 (ad 7 i) 5 = 0 ∧ G.2.2.2.1 (ad 7 i) 6 = false) ∧ (∀ q, q < P.1 24 → G.2.2.2.2.2 (ad 9 q) 2 = none) ∧ ∀ l, l < P.1 27 → G.2.2.2.2.2 (ad 12 l) 2 = none
/-- where the pins of the gates stand -/
def GO (G : PG) (ad : Nat → Nat → Nat) : Prop := (G.2.1 (ad 17 0) 7 = 2 ∧ G.2.1 (ad 17 0) 8 = 3) ∧ (G.2.1 (ad 17 1) 7 = 1 ∧ G.2.1 (ad 17 1) 8 = 2) ∧ ∀ j, j < 5 → G.2.1 (ad 22 j) 4 = (if j < 3 then j else j - 3) ∧ G.2.1 (ad 22 j) 5 < 65536
theorem seg {f : Nat → Nat} : ∀ n l, f 0 ≤ l → l < f n → ∃ k, k < n ∧ f k ≤ l ∧ l < f (k + 1)
  | 0, l, h1, h2 => absurd h2 (Nat.not_lt.mpr h1)
  | n + 1, l, h1, h2 => by
    by_cases e : l < f n
    · obtain ⟨k, a, b⟩ := seg n l h1 e
      exact ⟨k, by omega, b⟩
    · exact ⟨n, by omega, by omega, h2⟩
theorem link_at {ft tv : Nat → Int32} {nv : Nat → Nat} {X : PS} {l : Nat} (hs : SI ft tv nv X) (h15 : 1 ≤ X.1 15) (hl : l < X.1 27) : ∃ c q, inl (tt_end X) c q l := by
  have h24 : 0 < X.1 24 := Nat.pos_of_ne_zero (fun e => by have := hs.2.2.2.2 e; omega)
  have a0 : (tt_end X).2.2.1 26 0 = 0 := by
    show (if 0 = X.1 24 then X.1 27 else X.2.2.1 26 0) = 0
    rw [if_neg (by omega)]; exact hs.2.2.1.l0 h24
  have aN : (tt_end X).2.2.1 26 (X.1 24) = X.1 27 := va_up_self _ _ _
  obtain ⟨q, q1, q2, q3⟩ := seg (f := (tt_end X).2.2.1 26) (X.1 24) l (by rw [a0]; exact Nat.zero_le _) (by rw [aN]; exact hl)
  have b0 : (tt_end X).2.2.1 23 0 = 0 := by
    show (if 0 = X.1 15 then X.1 24 else X.2.2.1 23 0) = 0
    rw [if_neg (by omega)]; exact hs.2.1.f0 (by omega)
  have bN : (tt_end X).2.2.1 23 (X.1 15) = X.1 24 := va_up_self _ _ _
  obtain ⟨c, c1, c2, c3⟩ := seg (f := (tt_end X).2.2.1 23) (X.1 15) q (by rw [b0]; exact Nat.zero_le _) (by rw [bN]; exact q1)
  exact ⟨c, q, c1, ⟨c2, c3⟩, q2, q3⟩
theorem RX.rf {t0 qc qna qdf m : Nat} {ft tv : Nat → Int32} {nv : Nat → Nat} {fh fl : Nat → Int64} {pp nn : Nat → Nat} {G : PG} {ad : Nat → Nat → Nat} {tg : Nat → Nat × Nat} {X : PS} (h : RX t0 qc qna qdf ft tv fh fl pp nn m G ad tg X) (hs : SI ft tv nv X) (h15 : 1 ≤ X.1 15) (hm : m ≤ X.1 15) : RF t0 qc qna qdf ft tv fh fl pp nn G ad tg (tt_end X) ∧ FR0 G ad (tt_end X) ∧ GO G ad := by
  obtain ⟨hT, hq, hG, hC, rc, rp, ri, rq, rl, r1, r2, r3, r4⟩ := h
  have fr : ∀ k j, (k ≠ 17 ∧ k ≠ 23 ∧ k ≠ 36 ∨ j ≠ X.1 15) ∧ (k ≠ 26 ∨ j ≠ X.1 24) → (tt_end X).2.2.1 k j = X.2.2.1 k j := by
    intro k j hh
    show (if k = 26 then (fun i => if i = X.1 24 then X.1 27 else X.2.2.1 26 i) else (if k = 36 then (fun i => if i = X.1 15 then X.1 37 else X.2.2.1 36 i) else (if k = 23 then (fun i => if i = X.1 15 then X.1 24 else X.2.2.1 23 i) else (if k = 17 then (fun i => if i = X.1 15 then X.1 18 else X.2.2.1 17 i) else X.2.2.1 k)))) j = _
    by_cases q1 : k = 26
    · subst q1; rw [if_pos rfl]; exact if_neg (by rcases hh.2 with z | z; exact absurd rfl z; exact z)
    rw [if_neg q1]
    by_cases q2 : k = 36
    · subst q2; rw [if_pos rfl]; exact if_neg (by rcases hh.1 with z | z; exact absurd rfl z.2.2; exact z)
    rw [if_neg q2]
    by_cases q3 : k = 23
    · subst q3; rw [if_pos rfl]; exact if_neg (by rcases hh.1 with z | z; exact absurd rfl z.2.1; exact z)
    rw [if_neg q3]
    by_cases q4 : k = 17
    · subst q4; rw [if_pos rfl]; exact if_neg (by rcases hh.1 with z | z; exact absurd rfl z.1; exact z)
    rw [if_neg q4]
  have row : ∀ k, k ≠ 17 → k ≠ 23 → k ≠ 36 → k ≠ 26 → (tt_end X).2.2.1 k = X.2.2.1 k := fun k a b c d => by funext j; exact fr k j ⟨Or.inl ⟨a, b, c⟩, Or.inl d⟩
  have e17 : ∀ c, c < X.1 15 → (tt_end X).2.2.1 17 c = X.2.2.1 17 c ∧ (tt_end X).2.2.1 17 (c + 1) = pe X c := fun c hc => by
    refine ⟨fr 17 c ⟨Or.inr (by omega), Or.inl (by decide)⟩, ?_⟩
    unfold pe
    split
    · exact fr 17 (c + 1) ⟨Or.inr (by omega), Or.inl (by decide)⟩
    · rw [show c + 1 = X.1 15 by omega]; exact va_up_self _ _ _
  have e36 : ∀ c, c < X.1 15 → (tt_end X).2.2.1 36 c = X.2.2.1 36 c ∧ (tt_end X).2.2.1 36 (c + 1) = ie X c := fun c hc => by
    refine ⟨fr 36 c ⟨Or.inr (by omega), Or.inl (by decide)⟩, ?_⟩
    unfold ie
    split
    · exact fr 36 (c + 1) ⟨Or.inr (by omega), Or.inl (by decide)⟩
    · rw [show c + 1 = X.1 15 by omega]; exact va_up_self _ _ _
  have e23 : ∀ c, c < X.1 15 → (tt_end X).2.2.1 23 c = X.2.2.1 23 c ∧ (tt_end X).2.2.1 23 (c + 1) = qe X c := fun c hc => by
    refine ⟨fr 23 c ⟨Or.inr (by omega), Or.inl (by decide)⟩, ?_⟩
    unfold qe
    split
    · exact fr 23 (c + 1) ⟨Or.inr (by omega), Or.inl (by decide)⟩
    · rw [show c + 1 = X.1 15 by omega]; exact va_up_self _ _ _
  have e26 : ∀ q, q < X.1 24 → (tt_end X).2.2.1 26 q = X.2.2.1 26 q ∧ (tt_end X).2.2.1 26 (q + 1) = le_ X q := fun q hq => by
    refine ⟨fr 26 q ⟨Or.inl (by decide), Or.inr (by omega)⟩, ?_⟩
    unfold le_
    split
    · exact fr 26 (q + 1) ⟨Or.inl (by decide), Or.inr (by omega)⟩
    · rw [show q + 1 = X.1 24 by omega]; exact va_up_self _ _ _
  have z1 : (tt_end X).1 = X.1 := rfl
  have zo : (tt_end X).2.2.2 = X.2.2.2 := rfl
  have hw : ∀ c l, c < X.1 15 → wrk ft ad (tt_end X) c l = wro ft ad X c l := fun c l hc => by
    unfold wrk wro q_own q_inn
    rw [row 7 (by decide) (by decide) (by decide) (by decide), row 32 (by decide) (by decide) (by decide) (by decide), row 8 (by decide) (by decide) (by decide) (by decide), row 9 (by decide) (by decide) (by decide) (by decide), row 20 (by decide) (by decide) (by decide) (by decide), row 38 (by decide) (by decide) (by decide) (by decide), (e17 c hc).1, (e17 c hc).2, (e36 c hc).1, (e36 c hc).2]
    by_cases q : X.2.2.1 7 (X.2.2.1 32 l) = 1
    · rw [if_pos q, if_pos q]
      rcases m_find ft (X.2.2.1 8) (X.2.2.1 9) (X.2.2.1 20) (X.2.2.1 32 l) (pe X c - X.2.2.1 17 c) (X.2.2.1 17 c) with _ | y <;> rfl
    · rw [if_neg q, if_neg q]
  have il : ∀ c q l, inl (tt_end X) c q l → c < X.1 15 ∧ q < X.1 24 ∧ l < X.1 27 ∧ ad 32 l = c := fun c q l hl => by
    obtain ⟨a, ⟨b1, b2⟩, d1, d2⟩ := hl
    have a : c < X.1 15 := a
    have qq := qe_le hs.2.1 a
    rw [(e23 c a).2] at b2
    rw [(e23 c a).1] at b1
    have hq' : q < X.1 24 := by omega
    have ll := lle_le hs.2.2.1 hq'
    rw [(e26 q hq').1] at d1
    rw [(e26 q hq').2] at d2
    exact ⟨a, hq', by omega, (r2 q l hq' d1 d2).trans (r3 c q a b1 b2)⟩
  obtain ⟨⟨g1, g2, g3⟩, ⟨g4, g5, g6⟩, g7, g8, g9, g10, g11, g12, g13⟩ := hG
  refine ⟨⟨hT, hq, ⟨g1, g4, g7, g8, g9, g10, g11, fun j hj => ⟨(g12 j hj).1, (g12 j hj).2.1, (g12 j hj).2.2.1, (g12 j hj).2.2.2.1, (g12 j hj).2.2.2.2.1⟩, g13⟩, hC, fun c hc => ?_, fun p hp => ?_, fun i hi => ?_, fun q hq' => ?_, fun c q l hl => ?_, fun c i hc h1 h2 => ?_⟩, ⟨fun p hp => (rp p hp).1.2.2.2.2.2.2.1, fun i hi => ?_, fun q hq' => (rq q hq').1.2.2.2, fun l hl => (rl l hl).1.2.2.2.1⟩, ⟨⟨g2, g3⟩, ⟨g5, g6⟩, fun j hj => ⟨(g12 j hj).2.2.2.2.2.1, (g12 j hj).2.2.2.2.2.2⟩⟩⟩
  · have hc : c < X.1 15 := hc
    unfold RFC
    rw [(e17 c hc).1, (e17 c hc).2, (e36 c hc).1, (e36 c hc).2, (e23 c hc).1, (e23 c hc).2, row 16 (by decide) (by decide) (by decide) (by decide)]
    exact rc c hc
  · obtain ⟨v, t⟩ := rp p hp
    rw [row 21 (by decide) (by decide) (by decide) (by decide), row 20 (by decide) (by decide) (by decide) (by decide)]
    exact ⟨⟨v.1, v.2.1, v.2.2.1, v.2.2.2.1, v.2.2.2.2.1⟩, t⟩
  · obtain ⟨v, t⟩ := ri i hi
    rw [row 38 (by decide) (by decide) (by decide) (by decide)]
    exact ⟨⟨v.1, v.2.1, v.2.2.1⟩, t⟩
  · have hq' : q < X.1 24 := hq'
    obtain ⟨v, t, ls⟩ := rq q hq'
    rw [row 25 (by decide) (by decide) (by decide) (by decide), (e26 q hq').1, (e26 q hq').2]
    exact ⟨⟨v.1, v.2.1, v.2.2.1⟩, t, ls⟩
  · obtain ⟨hc, hq', hl', ec⟩ := il c q l hl
    obtain ⟨v1, v2, v3, v4, v5, v6⟩ := rl l hl'
    rw [ec] at v1 v6
    unfold RFL cst rl0
    rw [hw c l hc, row 30 (by decide) (by decide) (by decide) (by decide), row 31 (by decide) (by decide) (by decide) (by decide), row 28 (by decide) (by decide) (by decide) (by decide), row 32 (by decide) (by decide) (by decide) (by decide), row 34 (by decide) (by decide) (by decide) (by decide), row 35 (by decide) (by decide) (by decide) (by decide), row 7 (by decide) (by decide) (by decide) (by decide)]
    exact ⟨⟨v1.1, v1.2.1, v1.2.2.1, v1.2.2.2.2⟩, v2, v3, v4, v5, v6⟩
  · have hc : c < X.1 15 := hc
    rw [(e36 c hc).1] at h1
    rw [(e36 c hc).2] at h2
    have ib := ie_le hs.2.2.2.1 hc
    obtain ⟨l, a, b, d, e, f⟩ := r4 i (by omega)
    -- the chip of the link is c
    have hlc : ad 32 l < X.1 15 := Nat.lt_of_lt_of_le (r1 l a) hm
    have ec : ad 32 l = c := by
      rcases Nat.lt_trichotomy (ad 32 l) c with r | r | r
      · exfalso
        have : ie X (ad 32 l) ≤ X.2.2.1 36 c := by
          unfold ie; rw [if_pos (by omega)]
          exact (hs.2.2.2.1.fm (ad 32 l + 1) c (by omega) hc).1
        omega
      · exact r
      · exfalso
        have : ie X c ≤ X.2.2.1 36 (ad 32 l) := by
          unfold ie; rw [if_pos (by omega)]
          exact (hs.2.2.2.1.fm (c + 1) (ad 32 l) (by omega) hlc).1
        omega
    obtain ⟨c', q, hi⟩ := link_at hs h15 a
    obtain ⟨k1, k2, k3, k4⟩ := il c' q l hi
    rw [ec] at k4
    subst k4
    exact ⟨q, l, hi, by rw [row 38 (by decide) (by decide) (by decide) (by decide), row 32 (by decide) (by decide) (by decide) (by decide)]; exact b, by rw [hw c l hc, ← ec]; exact f⟩
  · have v := (ri i hi).1
    exact ⟨v.2.2.2.1, v.2.2.2.2.2.2.1, v.2.2.2.2.2.2.2⟩
