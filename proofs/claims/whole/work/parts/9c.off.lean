/-! The offsets of a chip's wires -/
def swd (G : PG) (xs : List Nat) : Nat → Nat
  | 0 => 0
  | i + 1 => swd G xs i + G.2.1 (xs[i]?.getD 0) 2
def sinb (G : PG) (xs : List Nat) (b7 b8 : Nat) : Nat → Nat
  | 0 => b7
  | i + 1 => if G.2.1 (xs[i]?.getD 0) 1 = 0 then b8 + swd G xs (i + 1) else sinb G xs b7 b8 i
theorem sfo_snoc (a : Nat) (xs : List Nat) : ∀ (k i : Nat) (G : PG), sfo a xs (k + 1) i G = sof (sfo a xs k i G) a (xs[i + k]?.getD 0)
  | 0, i, G => rfl
  | k + 1, i, G => by
    show sfo a xs (k + 1) (i + 1) (sof G a (xs[i]?.getD 0)) = _
    rw [sfo_snoc a xs k (i + 1) (sof G a (xs[i]?.getD 0)), show i + 1 + k = i + (k + 1) by omega]; rfl
theorem sof_8 {G : PG} {a w : Nat} (h : w ≠ a) : (sof G a w).2.1 a 8 = G.2.1 a 8 + G.2.1 w 2 ∧ (sof G a w).2.1 a 7 = (if G.2.1 w 1 = 0 then G.2.1 a 8 + G.2.1 w 2 else G.2.1 a 7) ∧ (sof G a w).2.1 w 4 = G.2.1 a 8 ∧ ∀ b, b ≠ w → (sof G a w).2.1 b 4 = G.2.1 b 4 := by
  have h' := Ne.symm h
  unfold sof
  by_cases q : G.2.1 w 1 = 0
  · rw [if_pos q, if_pos q]
    refine ⟨?_, ?_, ?_, fun b hb => ?_⟩ <;> simp [up2, h, h']
    intro e; exact absurd e hb
  · rw [if_neg q, if_neg q]
    refine ⟨?_, ?_, ?_, fun b hb => ?_⟩ <;> simp [up2, h, h']
    intro e; exact absurd e hb
theorem sfo_k {a : Nat} {xs : List Nat} {G : PG} : ∀ k, (sfo a xs k 0 G).1 = G.1 ∧ (sfo a xs k 0 G).2.2 = G.2.2 ∧ ∀ b j, j ≠ 4 → j ≠ 8 → j ≠ 7 → (sfo a xs k 0 G).2.1 b j = G.2.1 b j
  | 0 => ⟨rfl, rfl, fun _ _ _ _ _ => rfl⟩
  | k + 1 => by
    have h := sfo_k (a := a) (xs := xs) (G := G) k
    rw [sfo_snoc]
    have s := sof_k (sfo a xs k 0 G) a (xs[0 + k]?.getD 0)
    exact ⟨s.1.trans h.1, s.2.1.trans h.2.1, fun b j h1 h2 h3 => (s.2.2.1 b j h1 h2 h3).trans (h.2.2 b j h1 h2 h3)⟩
theorem sfo_spec {a : Nat} {xs : List Nat} {G : PG} (ha : ∀ i, i < xs.length → xs[i]?.getD 0 ≠ a) (hd : ∀ i j, i < j → j < xs.length → xs[i]?.getD 0 ≠ xs[j]?.getD 0) : ∀ k, k ≤ xs.length → (sfo a xs k 0 G).2.1 a 8 = G.2.1 a 8 + swd G xs k ∧ (sfo a xs k 0 G).2.1 a 7 = sinb G xs (G.2.1 a 7) (G.2.1 a 8) k ∧ (∀ j, j < k → (sfo a xs k 0 G).2.1 (xs[j]?.getD 0) 4 = G.2.1 a 8 + swd G xs j) ∧ ∀ b, (∀ j, j < k → xs[j]?.getD 0 ≠ b) → (sfo a xs k 0 G).2.1 b 4 = G.2.1 b 4
  | 0, _ => ⟨rfl, rfl, fun _ h => absurd h (Nat.not_lt_zero _), fun _ _ => rfl⟩
  | k + 1, hk => by
    obtain ⟨h8, h7, h4, hb⟩ := sfo_spec ha hd k (by omega)
    have kk := (sfo_k (a := a) (xs := xs) (G := G) k).2.2
    rw [sfo_snoc, Nat.zero_add]
    obtain ⟨s8, s7, s4, sb⟩ := sof_8 (G := sfo a xs k 0 G) (ha k (by omega))
    rw [kk _ 2 (by decide) (by decide) (by decide), h8] at s8
    rw [kk _ 2 (by decide) (by decide) (by decide), kk _ 1 (by decide) (by decide) (by decide), h8, h7] at s7
    refine ⟨by rw [s8]; show _ = _ + (swd G xs k + _); omega, ?_, fun j hj => ?_, fun b hn => ?_⟩
    · rw [s7]
      show _ = if G.2.1 (xs[k]?.getD 0) 1 = 0 then G.2.1 a 8 + (swd G xs k + G.2.1 (xs[k]?.getD 0) 2) else sinb G xs (G.2.1 a 7) (G.2.1 a 8) k
      split
      · omega
      · rfl
    · by_cases e : j = k
      · subst e; rw [s4, h8]
      · rw [sb _ (hd j k (by omega) (by omega))]; exact h4 j (by omega)
    · rw [sb b (fun e => hn k (by omega) e.symm)]; exact hb b (fun j hj => hn j (by omega))
theorem sfo_gs {a : Nat} {xs : List Nat} {G : PG} : ∀ k b, b ≠ a → (∀ j, j < k → b ≠ xs[j]?.getD 0) → gs G (sfo a xs k 0 G) b
  | 0, b, _, _ => gs.rf G b
  | k + 1, b, h1, h2 => by
    rw [sfo_snoc]
    exact (sfo_gs k b h1 (fun j hj => h2 j (by omega))).tr ((sof_k (sfo a xs k 0 G) a (xs[0 + k]?.getD 0)).2.2.2 b h1 (by rw [Nat.zero_add]; exact h2 k (by omega)))
theorem LS0.keep {t0 : Nat} {G G' : PG} {l : Nat} (h : LS0 t0 G l) (hg : gs G G' l) : LS0 t0 G' l := ⟨hg.1.trans h.1, by rw [hg.2.1]; exact h.2.1, by rw [hg.2.2.2.2.2]; exact h.2.2⟩
theorem isC_add {G G' : PG} {a nm gt ix l1 l2 l3 ip : Nat} (h : isC G a nm gt ix l1 l2 l3 ip) (hg : gs (gN G a 6 (G.2.1 a 6 + 1)) G' a) : isC G' a nm gt ix l1 l2 l3 (ip + 1) := by
  refine isC.keep (G := gN G a 6 (G.2.1 a 6 + 1)) ?_ hg
  obtain ⟨s1, s2, s3, s4, s5, s6, s7, s8⟩ := h
  refine ⟨s1, s2, ?_, ?_, s5, s6, s7, ?_⟩
  · show up2 G.2.1 _ 6 _ _ 1 = _; rw [up2_k _ _ _ _ (by decide)]; exact s3
  · show up2 G.2.1 _ 6 _ _ 2 = _; rw [up2_k _ _ _ _ (by decide)]; exact s4
  · show up2 G.2.1 _ 6 _ _ 6 = _; rw [up2_s, s8]
/-- a pin of a gate -/
def gwr (G : PG) (w nm k off : Nat) : Prop := G.1 w = 2 ∧ G.2.2.2.2.2 w 0 = some nm ∧ G.2.1 w 1 = k ∧ G.2.1 w 2 = 1 ∧ G.2.2.1 w 3 = none ∧ G.2.1 w 4 = off ∧ G.2.1 w 5 = 0 ∧ G.2.2.2.1 w 6 = false
/-- a gate with its pins: what stands in the pool -/
def GPx (t0 : Nat) (G : PG) (q nm la lb lc gt ip nb : Nat) (hd : Int64) (ws ns : List Nat) (ks os : List Nat) (hs : List Int64) : Prop := isC G q nm gt 0 la lb lc ip ∧ (G.2.1 q 7 = ip ∧ G.2.1 q 8 = nb) ∧ isN G nm hd 0 none ∧ LSx t0 G la ws ∧ LSx t0 G lb [] ∧ LSx t0 G lc [] ∧ ∀ i, i < ws.length → gwr G (ws[i]?.getD 0) (ns[i]?.getD 0) (ks[i]?.getD 0) (os[i]?.getD 0) ∧ isN G (ns[i]?.getD 0) (hs[i]?.getD 0) 0 none
theorem gt_fin {t0 : Nat} {G0 Go u : PG} {L ws ns ks os : List Nat} {hs : List Int64} {q nm la lb lc gt ip nb : Nat} {hd : Int64} {S : Nat → Prop} (hu : u = sfo q ws ws.length 0 (gN (gN Go q 8 0) q 7 0)) (hfw : ∀ i, i < ws.length → frh G0 (ws[i]?.getD 0)) (hd2 : ∀ i j, i < j → j < ws.length → ws[i]?.getD 0 ≠ ws[j]?.getD 0) (iC : isC Go q nm gt 0 la lb lc ip) (iN : isN Go nm hd 0 none) (lx : LSx t0 Go la ws) (ly : LS0 t0 Go lb) (lz : LS0 t0 Go lc) (iw : ∀ i, i < ws.length → isW Go (ws[i]?.getD 0) (ns[i]?.getD 0) (ks[i]?.getD 0) ∧ isN Go (ns[i]?.getD 0) (hs[i]?.getD 0) 0 none) (hL : gL L Go) (fs : LFs G0 Go S) (hSq : S q) (hb : swd Go ws ws.length = nb) (hi : sinb Go ws 0 0 ws.length = ip) (ho : ∀ i, i < ws.length → swd Go ws i = os[i]?.getD 0) : GPx t0 u q nm la lb lc gt ip nb hd ws ns ks os hs ∧ gL L u ∧ LFs G0 u S := by
  have kw : ∀ i, i < ws.length → Go.1 (ws[i]?.getD 0) = 2 := fun i hi => (iw i hi).1.1
  have hwq : ∀ i, i < ws.length → ws[i]?.getD 0 ≠ q := fun i hi e => by have := kw i hi; rw [e, iC.1] at this; cases this
  have a8 : (gN (gN Go q 8 0) q 7 0).2.1 q 8 = 0 := by show up2 (up2 Go.2.1 q 8 0) q 7 0 q 8 = 0; rw [up2_k _ _ _ _ (by decide), up2_s]
  have a7 : (gN (gN Go q 8 0) q 7 0).2.1 q 7 = 0 := up2_s _ _ _ _
  have ak : ∀ b k, k ≠ 7 → k ≠ 8 → (gN (gN Go q 8 0) q 7 0).2.1 b k = Go.2.1 b k := fun b k h1 h2 => by show up2 (up2 Go.2.1 q 8 0) q 7 0 b k = _; rw [up2_k _ _ _ _ h1, up2_k _ _ _ _ h2]
  have ag : ∀ b, b ≠ q → gs Go (gN (gN Go q 8 0) q 7 0) b := fun b h => (gs_N h).tr (gs_N h)
  have esw : ∀ i, swd (gN (gN Go q 8 0) q 7 0) ws i = swd Go ws i := by
    intro i
    induction i with
    | zero => rfl
    | succ i ih => show swd (gN (gN Go q 8 0) q 7 0) ws i + _ = swd Go ws i + _; rw [ih, ak _ 2 (by decide) (by decide)]
  have esi : ∀ i, sinb (gN (gN Go q 8 0) q 7 0) ws 0 0 i = sinb Go ws 0 0 i := by
    intro i
    induction i with
    | zero => rfl
    | succ i ih => show (if _ = 0 then 0 + swd (gN (gN Go q 8 0) q 7 0) ws (i + 1) else sinb (gN (gN Go q 8 0) q 7 0) ws 0 0 i) = (if _ = 0 then 0 + swd Go ws (i + 1) else sinb Go ws 0 0 i); rw [ih, esw, ak _ 1 (by decide) (by decide)]
  obtain ⟨s8, s7, s4, sb⟩ := sfo_spec (G := gN (gN Go q 8 0) q 7 0) hwq hd2 ws.length (Nat.le_refl _)
  obtain ⟨k1, k2, k3⟩ := sfo_k (a := q) (xs := ws) (G := gN (gN Go q 8 0) q 7 0) ws.length
  have kg := fun b h1 h2 => sfo_gs (a := q) (xs := ws) (G := gN (gN Go q 8 0) q 7 0) ws.length b h1 h2
  rw [← hu] at s8 s7 s4 sb k1 k2 k3 kg
  have gg : ∀ b, b ≠ q → (∀ j, j < ws.length → b ≠ ws[j]?.getD 0) → gs Go u b := fun b h1 h2 => (ag b h1).tr (kg b h1 h2)
  have g7 : ∀ b, Go.1 b ≠ 2 → Go.1 b ≠ 6 → gs Go u b := fun b h1 h2 => gg b (fun e => h2 (by rw [e]; exact iC.1)) (fun j hj e => h1 (by rw [e]; exact kw j hj))
  refine ⟨⟨?_, ⟨?_, ?_⟩, iN.keep (g7 nm (by rw [iN.1]; decide) (by rw [iN.1]; decide)), ?_, ?_, ?_, fun i hi => ⟨?_, (iw i hi).2.keep (g7 _ (by rw [(iw i hi).2.1]; decide) (by rw [(iw i hi).2.1]; decide))⟩⟩, ?_, ?_⟩
  · obtain ⟨c1, c2, c3, c4, c5, c6, c7, c8⟩ := iC
    refine ⟨by rw [k1]; exact c1, by rw [k2]; exact c2, ?_, ?_, by rw [k2]; exact c5, by rw [k2]; exact c6, by rw [k2]; exact c7, ?_⟩
    · rw [k3 q 1 (by decide) (by decide) (by decide), ak q 1 (by decide) (by decide)]; exact c3
    · rw [k3 q 2 (by decide) (by decide) (by decide), ak q 2 (by decide) (by decide)]; exact c4
    · rw [k3 q 6 (by decide) (by decide) (by decide), ak q 6 (by decide) (by decide)]; exact c8
  · rw [s7, a7, a8, esi]; exact hi
  · rw [s8, a8, esw, hb, Nat.zero_add]
  · refine LSx_of lx (fun b h => g7 b ?_ ?_) (fun x _ => by rw [k1])
    · rcases h with r | r
      · rw [r, lx.k.1]; decide
      · have := r.1; omega
    · rcases h with r | r
      · rw [r, lx.k.1]; decide
      · have := r.1; omega
  · exact ly.x (g7 lb (by rw [ly.1]; decide) (by rw [ly.1]; decide))
  · exact lz.x (g7 lc (by rw [lz.1]; decide) (by rw [lz.1]; decide))
  · obtain ⟨w1, w2, w3, w4, w5, w6, w7, w8⟩ := (iw i hi).1
    refine ⟨by rw [k1]; exact w1, by rw [k2]; exact w2, ?_, ?_, by rw [k2]; exact w5, ?_, ?_, by rw [k2]; exact w8⟩
    · rw [k3 _ 1 (by decide) (by decide) (by decide), ak _ 1 (by decide) (by decide)]; exact w3
    · rw [k3 _ 2 (by decide) (by decide) (by decide), ak _ 2 (by decide) (by decide)]; exact w4
    · rw [s4 i hi, a8, esw, ho i hi, Nat.zero_add]
    · rw [k3 _ 5 (by decide) (by decide) (by decide), ak _ 5 (by decide) (by decide)]; exact w7
  · intro b hb'
    rw [k1] at hb'; exact hL b hb'
  · refine ⟨fun b a c => by rw [k1]; exact fs.1 b a c, fun b a c d => (fs.2 b a c d).tr (gg b (fun e => c (by rw [e]; exact hSq)) (fun j hj e => ?_))⟩
    have e1 := (fs.2 b a c d).1
    rw [e, kw j hj] at e1
    exact hfw j hj ⟨by omega, by omega⟩
