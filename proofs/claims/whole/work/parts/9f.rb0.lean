theorem GPx.fr {t0 : Nat} {G G' : PG} {q nm la lb lc gt ip nb : Nat} {hd : Int64} {ws ns ks os : List Nat} {hs : List Int64} {S : Nat → Prop} (h : GPx t0 G q nm la lb lc gt ip nb hd ws ns ks os hs) (hf : LFs G G' S) (hS : ∀ b, S b → G.1 b = 0) : GPx t0 G' q nm la lb lc gt ip nb hd ws ns ks os hs := by
  have g : ∀ {b n : Nat}, G.1 b = n → 0 < n → n < 8 → gs G G' b := fun {b n} a b1 c => hf.gs (by omega) (by omega) (fun s => by have := hS b s; omega)
  have ll : ∀ {l : Nat} {xs : List Nat}, LSx t0 G l xs → LSx t0 G' l xs := fun {l xs} h => LSx_fs h hf (fun b a s => by have := hS b s; omega) (fun s => by have := hS l s; rw [h.k.1] at this; cases this)
  obtain ⟨h1, ⟨h2, h3⟩, h4, h5, h6, h7, h8⟩ := h
  have gq := g h1.1 (by decide) (by decide)
  refine ⟨h1.keep gq, ⟨by rw [gq.2.1]; exact h2, by rw [gq.2.1]; exact h3⟩, h4.keep (g h4.1 (by decide) (by decide)), ll h5, ll h6, ll h7, fun i hi => ?_⟩
  obtain ⟨w, n⟩ := h8 i hi
  refine ⟨?_, n.keep (g n.1 (by decide) (by decide))⟩
  obtain ⟨g1, g2, g3, g4, g5, g6⟩ := g w.1 (by decide) (by decide)
  unfold gwr at w ⊢
  rw [g1, g2, g3, g4, g6]; exact w
theorem RT_nand {G0 G : PG} {S : Nat → Prop} {ad : Nat → Nat → Nat} {tg : Nat → Nat × Nat} {c : Nat → Nat} {q nm la lb lc w0 w1 w2 n0 n1 n2 : Nat} (hT : RT G0 ad tg c) (hf : LFs G0 G S) (c17 : c 17 = 0) (c18 : c 18 = 0) (c19 : c 19 = 0) (c20 : c 20 = 0) (c21 : c 21 = 0) (c22 : c 22 = 0) (c23 : c 23 = 0) (f_q : frh G0 q) (f_nm : frh G0 nm) (f_la : frh G0 la) (f_lb : frh G0 lb) (f_lc : frh G0 lc) (f_w0 : frh G0 w0) (f_w1 : frh G0 w1) (f_w2 : frh G0 w2) (f_n0 : frh G0 n0) (f_n1 : frh G0 n1) (f_n2 : frh G0 n2) (k_q : G.1 q = 6) (k_nm : G.1 nm = 1) (k_la : G.1 la = 7) (k_lb : G.1 lb = 7) (k_lc : G.1 lc = 7) (k_w0 : G.1 w0 = 2) (k_w1 : G.1 w1 = 2) (k_w2 : G.1 w2 = 2) (k_n0 : G.1 n0 = 1) (k_n1 : G.1 n1 = 1) (k_n2 : G.1 n2 = 1) (hl : la ≠ lb ∧ la ≠ lc ∧ lb ≠ lc) (e_w0_w1 : w0 ≠ w1) (e_w0_w2 : w0 ≠ w2) (e_w1_w2 : w1 ≠ w2) (e_nm_n0 : nm ≠ n0) (e_nm_n1 : nm ≠ n1) (e_nm_n2 : nm ≠ n2) (e_n0_n1 : n0 ≠ n1) (e_n0_n2 : n0 ≠ n2) (e_n1_n2 : n1 ≠ n2) : ∃ ad' tg', (∀ k j, j < c k → ad' k j = ad k j) ∧ ad' 17 0 = q ∧ ad' 18 0 = nm ∧ ad' 19 0 = la ∧ ad' 20 0 = lb ∧ ad' 21 0 = lc ∧ ad' 22 0 = w0 ∧ ad' 22 1 = w1 ∧ ad' 22 2 = w2 ∧ ad' 23 0 = n0 ∧ ad' 23 1 = n1 ∧ ad' 23 2 = n2 ∧ ∀ c' : Nat → Nat, (∀ k, c' k ≤ if k = 17 ∨ k = 18 ∨ k = 19 ∨ k = 20 ∨ k = 21 then 1 else if k = 22 ∨ k = 23 then 3 else c k) → RT G ad' tg' c' := by
  have kne : ∀ {a b ka kb : Nat}, G.1 a = ka → G.1 b = kb → ka ≠ kb → a ≠ b := fun ha hb hn e => hn (by rw [← ha, ← hb, e])
  have hT1 := hT.fr hf
  have t0 := RT.put (k0 := 17) (j0 := 0) hT1 (hT.fre f_q) k_q (by simp [c17, c18, c19, c20, c21, c22, c23])
  have t1 := RT.put (k0 := 18) (j0 := 0) t0 (put_ne (k0 := 17) (j0 := 0) (hT.fre f_nm) (kne k_q k_nm (by decide)) (by simp [c17, c18, c19, c20, c21, c22, c23])) k_nm (by simp [c17, c18, c19, c20, c21, c22, c23])
  have t2 := RT.put (k0 := 19) (j0 := 0) t1 (put_ne (k0 := 18) (j0 := 0) (put_ne (k0 := 17) (j0 := 0) (hT.fre f_la) (kne k_q k_la (by decide)) (by simp [c17, c18, c19, c20, c21, c22, c23])) (kne k_nm k_la (by decide)) (by simp [c17, c18, c19, c20, c21, c22, c23])) k_la (by simp [c17, c18, c19, c20, c21, c22, c23])
  have t3 := RT.put (k0 := 20) (j0 := 0) t2 (put_ne (k0 := 19) (j0 := 0) (put_ne (k0 := 18) (j0 := 0) (put_ne (k0 := 17) (j0 := 0) (hT.fre f_lb) (kne k_q k_lb (by decide)) (by simp [c17, c18, c19, c20, c21, c22, c23])) (kne k_nm k_lb (by decide)) (by simp [c17, c18, c19, c20, c21, c22, c23])) hl.1 (by simp [c17, c18, c19, c20, c21, c22, c23])) k_lb (by simp [c17, c18, c19, c20, c21, c22, c23])
  have t4 := RT.put (k0 := 21) (j0 := 0) t3 (put_ne (k0 := 20) (j0 := 0) (put_ne (k0 := 19) (j0 := 0) (put_ne (k0 := 18) (j0 := 0) (put_ne (k0 := 17) (j0 := 0) (hT.fre f_lc) (kne k_q k_lc (by decide)) (by simp [c17, c18, c19, c20, c21, c22, c23])) (kne k_nm k_lc (by decide)) (by simp [c17, c18, c19, c20, c21, c22, c23])) hl.2.1 (by simp [c17, c18, c19, c20, c21, c22, c23])) hl.2.2 (by simp [c17, c18, c19, c20, c21, c22, c23])) k_lc (by simp [c17, c18, c19, c20, c21, c22, c23])
  have t5 := RT.put (k0 := 22) (j0 := 0) t4 (put_ne (k0 := 21) (j0 := 0) (put_ne (k0 := 20) (j0 := 0) (put_ne (k0 := 19) (j0 := 0) (put_ne (k0 := 18) (j0 := 0) (put_ne (k0 := 17) (j0 := 0) (hT.fre f_w0) (kne k_q k_w0 (by decide)) (by simp [c17, c18, c19, c20, c21, c22, c23])) (kne k_nm k_w0 (by decide)) (by simp [c17, c18, c19, c20, c21, c22, c23])) (kne k_la k_w0 (by decide)) (by simp [c17, c18, c19, c20, c21, c22, c23])) (kne k_lb k_w0 (by decide)) (by simp [c17, c18, c19, c20, c21, c22, c23])) (kne k_lc k_w0 (by decide)) (by simp [c17, c18, c19, c20, c21, c22, c23])) k_w0 (by simp [c17, c18, c19, c20, c21, c22, c23])
  have t6 := RT.put (k0 := 22) (j0 := 1) t5 (put_ne (k0 := 22) (j0 := 0) (put_ne (k0 := 21) (j0 := 0) (put_ne (k0 := 20) (j0 := 0) (put_ne (k0 := 19) (j0 := 0) (put_ne (k0 := 18) (j0 := 0) (put_ne (k0 := 17) (j0 := 0) (hT.fre f_w1) (kne k_q k_w1 (by decide)) (by simp [c17, c18, c19, c20, c21, c22, c23])) (kne k_nm k_w1 (by decide)) (by simp [c17, c18, c19, c20, c21, c22, c23])) (kne k_la k_w1 (by decide)) (by simp [c17, c18, c19, c20, c21, c22, c23])) (kne k_lb k_w1 (by decide)) (by simp [c17, c18, c19, c20, c21, c22, c23])) (kne k_lc k_w1 (by decide)) (by simp [c17, c18, c19, c20, c21, c22, c23])) e_w0_w1 (by simp [c17, c18, c19, c20, c21, c22, c23])) k_w1 (by simp [c17, c18, c19, c20, c21, c22, c23])
  have t7 := RT.put (k0 := 22) (j0 := 2) t6 (put_ne (k0 := 22) (j0 := 1) (put_ne (k0 := 22) (j0 := 0) (put_ne (k0 := 21) (j0 := 0) (put_ne (k0 := 20) (j0 := 0) (put_ne (k0 := 19) (j0 := 0) (put_ne (k0 := 18) (j0 := 0) (put_ne (k0 := 17) (j0 := 0) (hT.fre f_w2) (kne k_q k_w2 (by decide)) (by simp [c17, c18, c19, c20, c21, c22, c23])) (kne k_nm k_w2 (by decide)) (by simp [c17, c18, c19, c20, c21, c22, c23])) (kne k_la k_w2 (by decide)) (by simp [c17, c18, c19, c20, c21, c22, c23])) (kne k_lb k_w2 (by decide)) (by simp [c17, c18, c19, c20, c21, c22, c23])) (kne k_lc k_w2 (by decide)) (by simp [c17, c18, c19, c20, c21, c22, c23])) e_w0_w2 (by simp [c17, c18, c19, c20, c21, c22, c23])) e_w1_w2 (by simp [c17, c18, c19, c20, c21, c22, c23])) k_w2 (by simp [c17, c18, c19, c20, c21, c22, c23])
  have t8 := RT.put (k0 := 23) (j0 := 0) t7 (put_ne (k0 := 22) (j0 := 2) (put_ne (k0 := 22) (j0 := 1) (put_ne (k0 := 22) (j0 := 0) (put_ne (k0 := 21) (j0 := 0) (put_ne (k0 := 20) (j0 := 0) (put_ne (k0 := 19) (j0 := 0) (put_ne (k0 := 18) (j0 := 0) (put_ne (k0 := 17) (j0 := 0) (hT.fre f_n0) (kne k_q k_n0 (by decide)) (by simp [c17, c18, c19, c20, c21, c22, c23])) e_nm_n0 (by simp [c17, c18, c19, c20, c21, c22, c23])) (kne k_la k_n0 (by decide)) (by simp [c17, c18, c19, c20, c21, c22, c23])) (kne k_lb k_n0 (by decide)) (by simp [c17, c18, c19, c20, c21, c22, c23])) (kne k_lc k_n0 (by decide)) (by simp [c17, c18, c19, c20, c21, c22, c23])) (kne k_w0 k_n0 (by decide)) (by simp [c17, c18, c19, c20, c21, c22, c23])) (kne k_w1 k_n0 (by decide)) (by simp [c17, c18, c19, c20, c21, c22, c23])) (kne k_w2 k_n0 (by decide)) (by simp [c17, c18, c19, c20, c21, c22, c23])) k_n0 (by simp [c17, c18, c19, c20, c21, c22, c23])
  have t9 := RT.put (k0 := 23) (j0 := 1) t8 (put_ne (k0 := 23) (j0 := 0) (put_ne (k0 := 22) (j0 := 2) (put_ne (k0 := 22) (j0 := 1) (put_ne (k0 := 22) (j0 := 0) (put_ne (k0 := 21) (j0 := 0) (put_ne (k0 := 20) (j0 := 0) (put_ne (k0 := 19) (j0 := 0) (put_ne (k0 := 18) (j0 := 0) (put_ne (k0 := 17) (j0 := 0) (hT.fre f_n1) (kne k_q k_n1 (by decide)) (by simp [c17, c18, c19, c20, c21, c22, c23])) e_nm_n1 (by simp [c17, c18, c19, c20, c21, c22, c23])) (kne k_la k_n1 (by decide)) (by simp [c17, c18, c19, c20, c21, c22, c23])) (kne k_lb k_n1 (by decide)) (by simp [c17, c18, c19, c20, c21, c22, c23])) (kne k_lc k_n1 (by decide)) (by simp [c17, c18, c19, c20, c21, c22, c23])) (kne k_w0 k_n1 (by decide)) (by simp [c17, c18, c19, c20, c21, c22, c23])) (kne k_w1 k_n1 (by decide)) (by simp [c17, c18, c19, c20, c21, c22, c23])) (kne k_w2 k_n1 (by decide)) (by simp [c17, c18, c19, c20, c21, c22, c23])) e_n0_n1 (by simp [c17, c18, c19, c20, c21, c22, c23])) k_n1 (by simp [c17, c18, c19, c20, c21, c22, c23])
  have t10 := RT.put (k0 := 23) (j0 := 2) t9 (put_ne (k0 := 23) (j0 := 1) (put_ne (k0 := 23) (j0 := 0) (put_ne (k0 := 22) (j0 := 2) (put_ne (k0 := 22) (j0 := 1) (put_ne (k0 := 22) (j0 := 0) (put_ne (k0 := 21) (j0 := 0) (put_ne (k0 := 20) (j0 := 0) (put_ne (k0 := 19) (j0 := 0) (put_ne (k0 := 18) (j0 := 0) (put_ne (k0 := 17) (j0 := 0) (hT.fre f_n2) (kne k_q k_n2 (by decide)) (by simp [c17, c18, c19, c20, c21, c22, c23])) e_nm_n2 (by simp [c17, c18, c19, c20, c21, c22, c23])) (kne k_la k_n2 (by decide)) (by simp [c17, c18, c19, c20, c21, c22, c23])) (kne k_lb k_n2 (by decide)) (by simp [c17, c18, c19, c20, c21, c22, c23])) (kne k_lc k_n2 (by decide)) (by simp [c17, c18, c19, c20, c21, c22, c23])) (kne k_w0 k_n2 (by decide)) (by simp [c17, c18, c19, c20, c21, c22, c23])) (kne k_w1 k_n2 (by decide)) (by simp [c17, c18, c19, c20, c21, c22, c23])) (kne k_w2 k_n2 (by decide)) (by simp [c17, c18, c19, c20, c21, c22, c23])) e_n0_n2 (by simp [c17, c18, c19, c20, c21, c22, c23])) e_n1_n2 (by simp [c17, c18, c19, c20, c21, c22, c23])) k_n2 (by simp [c17, c18, c19, c20, c21, c22, c23])
  refine ⟨(up2 (up2 (up2 (up2 (up2 (up2 (up2 (up2 (up2 (up2 (up2 ad 17 0 q) 18 0 nm) 19 0 la) 20 0 lb) 21 0 lc) 22 0 w0) 22 1 w1) 22 2 w2) 23 0 n0) 23 1 n1) 23 2 n2), _, ?_, ?_, ?_, ?_, ?_, ?_, ?_, ?_, ?_, ?_, ?_, ?_, fun c' hc => RT.sub t10 (fun k => Nat.le_trans (hc k) ?_)⟩
  · intro k j hj
    rw [show ∀ (f : Nat → Nat → Nat), up2 f 23 2 n2 k j = f k j from fun f => if_neg (fun e => by rw [e.1, e.2, c23] at hj; omega)]
    rw [show ∀ (f : Nat → Nat → Nat), up2 f 23 1 n1 k j = f k j from fun f => if_neg (fun e => by rw [e.1, e.2, c23] at hj; omega)]
    rw [show ∀ (f : Nat → Nat → Nat), up2 f 23 0 n0 k j = f k j from fun f => if_neg (fun e => by rw [e.1, e.2, c23] at hj; omega)]
    rw [show ∀ (f : Nat → Nat → Nat), up2 f 22 2 w2 k j = f k j from fun f => if_neg (fun e => by rw [e.1, e.2, c22] at hj; omega)]
    rw [show ∀ (f : Nat → Nat → Nat), up2 f 22 1 w1 k j = f k j from fun f => if_neg (fun e => by rw [e.1, e.2, c22] at hj; omega)]
    rw [show ∀ (f : Nat → Nat → Nat), up2 f 22 0 w0 k j = f k j from fun f => if_neg (fun e => by rw [e.1, e.2, c22] at hj; omega)]
    rw [show ∀ (f : Nat → Nat → Nat), up2 f 21 0 lc k j = f k j from fun f => if_neg (fun e => by rw [e.1, e.2, c21] at hj; omega)]
    rw [show ∀ (f : Nat → Nat → Nat), up2 f 20 0 lb k j = f k j from fun f => if_neg (fun e => by rw [e.1, e.2, c20] at hj; omega)]
    rw [show ∀ (f : Nat → Nat → Nat), up2 f 19 0 la k j = f k j from fun f => if_neg (fun e => by rw [e.1, e.2, c19] at hj; omega)]
    rw [show ∀ (f : Nat → Nat → Nat), up2 f 18 0 nm k j = f k j from fun f => if_neg (fun e => by rw [e.1, e.2, c18] at hj; omega)]
    rw [show ∀ (f : Nat → Nat → Nat), up2 f 17 0 q k j = f k j from fun f => if_neg (fun e => by rw [e.1, e.2, c17] at hj; omega)]
  · simp [up2]
  · simp [up2]
  · simp [up2]
  · simp [up2]
  · simp [up2]
  · simp [up2]
  · simp [up2]
  · simp [up2]
  · simp [up2]
  · simp [up2]
  · simp [up2]
  · by_cases e : k = 17 ∨ k = 18 ∨ k = 19 ∨ k = 20 ∨ k = 21 ∨ k = 22 ∨ k = 23
    · rcases e with r | r | r | r | r | r | r <;> subst r <;> simp [c17, c18, c19, c20, c21, c22, c23]
    · rw [if_neg (by omega), if_neg (by omega)]
      simp only [show k ≠ 17 by omega, show k ≠ 18 by omega, show k ≠ 19 by omega, show k ≠ 20 by omega, show k ≠ 21 by omega, show k ≠ 22 by omega, show k ≠ 23 by omega, if_false]
      exact Nat.le_refl _
theorem RT_dff {G0 G : PG} {S : Nat → Prop} {ad : Nat → Nat → Nat} {tg : Nat → Nat × Nat} {c : Nat → Nat} {q nm la lb lc w0 w1 n0 n1 : Nat} (hT : RT G0 ad tg c) (hf : LFs G0 G S) (c17 : c 17 = 1) (c18 : c 18 = 1) (c19 : c 19 = 1) (c20 : c 20 = 1) (c21 : c 21 = 1) (c22 : c 22 = 3) (c23 : c 23 = 3) (f_q : frh G0 q) (f_nm : frh G0 nm) (f_la : frh G0 la) (f_lb : frh G0 lb) (f_lc : frh G0 lc) (f_w0 : frh G0 w0) (f_w1 : frh G0 w1) (f_n0 : frh G0 n0) (f_n1 : frh G0 n1) (k_q : G.1 q = 6) (k_nm : G.1 nm = 1) (k_la : G.1 la = 7) (k_lb : G.1 lb = 7) (k_lc : G.1 lc = 7) (k_w0 : G.1 w0 = 2) (k_w1 : G.1 w1 = 2) (k_n0 : G.1 n0 = 1) (k_n1 : G.1 n1 = 1) (hl : la ≠ lb ∧ la ≠ lc ∧ lb ≠ lc) (e_w0_w1 : w0 ≠ w1) (e_nm_n0 : nm ≠ n0) (e_nm_n1 : nm ≠ n1) (e_n0_n1 : n0 ≠ n1) : ∃ ad' tg', (∀ k j, j < c k → ad' k j = ad k j) ∧ ad' 17 1 = q ∧ ad' 18 1 = nm ∧ ad' 19 1 = la ∧ ad' 20 1 = lb ∧ ad' 21 1 = lc ∧ ad' 22 3 = w0 ∧ ad' 22 4 = w1 ∧ ad' 23 3 = n0 ∧ ad' 23 4 = n1 ∧ ∀ c' : Nat → Nat, (∀ k, c' k ≤ if k = 17 ∨ k = 18 ∨ k = 19 ∨ k = 20 ∨ k = 21 then 2 else if k = 22 ∨ k = 23 then 5 else c k) → RT G ad' tg' c' := by
  have kne : ∀ {a b ka kb : Nat}, G.1 a = ka → G.1 b = kb → ka ≠ kb → a ≠ b := fun ha hb hn e => hn (by rw [← ha, ← hb, e])
  have hT1 := hT.fr hf
  have t0 := RT.put (k0 := 17) (j0 := 1) hT1 (hT.fre f_q) k_q (by simp [c17, c18, c19, c20, c21, c22, c23])
  have t1 := RT.put (k0 := 18) (j0 := 1) t0 (put_ne (k0 := 17) (j0 := 1) (hT.fre f_nm) (kne k_q k_nm (by decide)) (by simp [c17, c18, c19, c20, c21, c22, c23])) k_nm (by simp [c17, c18, c19, c20, c21, c22, c23])
  have t2 := RT.put (k0 := 19) (j0 := 1) t1 (put_ne (k0 := 18) (j0 := 1) (put_ne (k0 := 17) (j0 := 1) (hT.fre f_la) (kne k_q k_la (by decide)) (by simp [c17, c18, c19, c20, c21, c22, c23])) (kne k_nm k_la (by decide)) (by simp [c17, c18, c19, c20, c21, c22, c23])) k_la (by simp [c17, c18, c19, c20, c21, c22, c23])
  have t3 := RT.put (k0 := 20) (j0 := 1) t2 (put_ne (k0 := 19) (j0 := 1) (put_ne (k0 := 18) (j0 := 1) (put_ne (k0 := 17) (j0 := 1) (hT.fre f_lb) (kne k_q k_lb (by decide)) (by simp [c17, c18, c19, c20, c21, c22, c23])) (kne k_nm k_lb (by decide)) (by simp [c17, c18, c19, c20, c21, c22, c23])) hl.1 (by simp [c17, c18, c19, c20, c21, c22, c23])) k_lb (by simp [c17, c18, c19, c20, c21, c22, c23])
  have t4 := RT.put (k0 := 21) (j0 := 1) t3 (put_ne (k0 := 20) (j0 := 1) (put_ne (k0 := 19) (j0 := 1) (put_ne (k0 := 18) (j0 := 1) (put_ne (k0 := 17) (j0 := 1) (hT.fre f_lc) (kne k_q k_lc (by decide)) (by simp [c17, c18, c19, c20, c21, c22, c23])) (kne k_nm k_lc (by decide)) (by simp [c17, c18, c19, c20, c21, c22, c23])) hl.2.1 (by simp [c17, c18, c19, c20, c21, c22, c23])) hl.2.2 (by simp [c17, c18, c19, c20, c21, c22, c23])) k_lc (by simp [c17, c18, c19, c20, c21, c22, c23])
  have t5 := RT.put (k0 := 22) (j0 := 3) t4 (put_ne (k0 := 21) (j0 := 1) (put_ne (k0 := 20) (j0 := 1) (put_ne (k0 := 19) (j0 := 1) (put_ne (k0 := 18) (j0 := 1) (put_ne (k0 := 17) (j0 := 1) (hT.fre f_w0) (kne k_q k_w0 (by decide)) (by simp [c17, c18, c19, c20, c21, c22, c23])) (kne k_nm k_w0 (by decide)) (by simp [c17, c18, c19, c20, c21, c22, c23])) (kne k_la k_w0 (by decide)) (by simp [c17, c18, c19, c20, c21, c22, c23])) (kne k_lb k_w0 (by decide)) (by simp [c17, c18, c19, c20, c21, c22, c23])) (kne k_lc k_w0 (by decide)) (by simp [c17, c18, c19, c20, c21, c22, c23])) k_w0 (by simp [c17, c18, c19, c20, c21, c22, c23])
  have t6 := RT.put (k0 := 22) (j0 := 4) t5 (put_ne (k0 := 22) (j0 := 3) (put_ne (k0 := 21) (j0 := 1) (put_ne (k0 := 20) (j0 := 1) (put_ne (k0 := 19) (j0 := 1) (put_ne (k0 := 18) (j0 := 1) (put_ne (k0 := 17) (j0 := 1) (hT.fre f_w1) (kne k_q k_w1 (by decide)) (by simp [c17, c18, c19, c20, c21, c22, c23])) (kne k_nm k_w1 (by decide)) (by simp [c17, c18, c19, c20, c21, c22, c23])) (kne k_la k_w1 (by decide)) (by simp [c17, c18, c19, c20, c21, c22, c23])) (kne k_lb k_w1 (by decide)) (by simp [c17, c18, c19, c20, c21, c22, c23])) (kne k_lc k_w1 (by decide)) (by simp [c17, c18, c19, c20, c21, c22, c23])) e_w0_w1 (by simp [c17, c18, c19, c20, c21, c22, c23])) k_w1 (by simp [c17, c18, c19, c20, c21, c22, c23])
  have t7 := RT.put (k0 := 23) (j0 := 3) t6 (put_ne (k0 := 22) (j0 := 4) (put_ne (k0 := 22) (j0 := 3) (put_ne (k0 := 21) (j0 := 1) (put_ne (k0 := 20) (j0 := 1) (put_ne (k0 := 19) (j0 := 1) (put_ne (k0 := 18) (j0 := 1) (put_ne (k0 := 17) (j0 := 1) (hT.fre f_n0) (kne k_q k_n0 (by decide)) (by simp [c17, c18, c19, c20, c21, c22, c23])) e_nm_n0 (by simp [c17, c18, c19, c20, c21, c22, c23])) (kne k_la k_n0 (by decide)) (by simp [c17, c18, c19, c20, c21, c22, c23])) (kne k_lb k_n0 (by decide)) (by simp [c17, c18, c19, c20, c21, c22, c23])) (kne k_lc k_n0 (by decide)) (by simp [c17, c18, c19, c20, c21, c22, c23])) (kne k_w0 k_n0 (by decide)) (by simp [c17, c18, c19, c20, c21, c22, c23])) (kne k_w1 k_n0 (by decide)) (by simp [c17, c18, c19, c20, c21, c22, c23])) k_n0 (by simp [c17, c18, c19, c20, c21, c22, c23])
  have t8 := RT.put (k0 := 23) (j0 := 4) t7 (put_ne (k0 := 23) (j0 := 3) (put_ne (k0 := 22) (j0 := 4) (put_ne (k0 := 22) (j0 := 3) (put_ne (k0 := 21) (j0 := 1) (put_ne (k0 := 20) (j0 := 1) (put_ne (k0 := 19) (j0 := 1) (put_ne (k0 := 18) (j0 := 1) (put_ne (k0 := 17) (j0 := 1) (hT.fre f_n1) (kne k_q k_n1 (by decide)) (by simp [c17, c18, c19, c20, c21, c22, c23])) e_nm_n1 (by simp [c17, c18, c19, c20, c21, c22, c23])) (kne k_la k_n1 (by decide)) (by simp [c17, c18, c19, c20, c21, c22, c23])) (kne k_lb k_n1 (by decide)) (by simp [c17, c18, c19, c20, c21, c22, c23])) (kne k_lc k_n1 (by decide)) (by simp [c17, c18, c19, c20, c21, c22, c23])) (kne k_w0 k_n1 (by decide)) (by simp [c17, c18, c19, c20, c21, c22, c23])) (kne k_w1 k_n1 (by decide)) (by simp [c17, c18, c19, c20, c21, c22, c23])) e_n0_n1 (by simp [c17, c18, c19, c20, c21, c22, c23])) k_n1 (by simp [c17, c18, c19, c20, c21, c22, c23])
  refine ⟨(up2 (up2 (up2 (up2 (up2 (up2 (up2 (up2 (up2 ad 17 1 q) 18 1 nm) 19 1 la) 20 1 lb) 21 1 lc) 22 3 w0) 22 4 w1) 23 3 n0) 23 4 n1), _, ?_, ?_, ?_, ?_, ?_, ?_, ?_, ?_, ?_, ?_, fun c' hc => RT.sub t8 (fun k => Nat.le_trans (hc k) ?_)⟩
  · intro k j hj
    rw [show ∀ (f : Nat → Nat → Nat), up2 f 23 4 n1 k j = f k j from fun f => if_neg (fun e => by rw [e.1, e.2, c23] at hj; omega)]
    rw [show ∀ (f : Nat → Nat → Nat), up2 f 23 3 n0 k j = f k j from fun f => if_neg (fun e => by rw [e.1, e.2, c23] at hj; omega)]
    rw [show ∀ (f : Nat → Nat → Nat), up2 f 22 4 w1 k j = f k j from fun f => if_neg (fun e => by rw [e.1, e.2, c22] at hj; omega)]
    rw [show ∀ (f : Nat → Nat → Nat), up2 f 22 3 w0 k j = f k j from fun f => if_neg (fun e => by rw [e.1, e.2, c22] at hj; omega)]
    rw [show ∀ (f : Nat → Nat → Nat), up2 f 21 1 lc k j = f k j from fun f => if_neg (fun e => by rw [e.1, e.2, c21] at hj; omega)]
    rw [show ∀ (f : Nat → Nat → Nat), up2 f 20 1 lb k j = f k j from fun f => if_neg (fun e => by rw [e.1, e.2, c20] at hj; omega)]
    rw [show ∀ (f : Nat → Nat → Nat), up2 f 19 1 la k j = f k j from fun f => if_neg (fun e => by rw [e.1, e.2, c19] at hj; omega)]
    rw [show ∀ (f : Nat → Nat → Nat), up2 f 18 1 nm k j = f k j from fun f => if_neg (fun e => by rw [e.1, e.2, c18] at hj; omega)]
    rw [show ∀ (f : Nat → Nat → Nat), up2 f 17 1 q k j = f k j from fun f => if_neg (fun e => by rw [e.1, e.2, c17] at hj; omega)]
  · simp [up2]
  · simp [up2]
  · simp [up2]
  · simp [up2]
  · simp [up2]
  · simp [up2]
  · simp [up2]
  · simp [up2]
  · simp [up2]
  · by_cases e : k = 17 ∨ k = 18 ∨ k = 19 ∨ k = 20 ∨ k = 21 ∨ k = 22 ∨ k = 23
    · rcases e with r | r | r | r | r | r | r <;> subst r <;> simp [c17, c18, c19, c20, c21, c22, c23]
    · rw [if_neg (by omega), if_neg (by omega)]
      simp only [show k ≠ 17 by omega, show k ≠ 18 by omega, show k ≠ 19 by omega, show k ≠ 20 by omega, show k ≠ 21 by omega, show k ≠ 22 by omega, show k ≠ 23 by omega, if_false]
      exact Nat.le_refl _
/-- the two gates stand in the pool, and a list of chips without one -/
theorem RB_init {t0 qc na df : Nat} {G1 G2 G3 : PG} {L2 L3 : List Nat} (hq : LS0 t0 G1 qc) (hn : ∃ q nm la lb lc w0 w1 w2 n0 n1 n2, some na = some q ∧ GPx t0 G2 q nm la lb lc 1 2 3 1315008100 [w0, w1, w2] [n0, n1, n2] [0, 0, 1] [0, 1, 2] [97, 98, 7304564] ∧ gL L2 G2 ∧ (G1.1 q = 0 ∧ G1.1 la = 0 ∧ G1.1 lb = 0 ∧ G1.1 lc = 0 ∧ frh G1 nm ∧ frh G1 w0 ∧ frh G1 w1 ∧ frh G1 w2 ∧ frh G1 n0 ∧ frh G1 n1 ∧ frh G1 n2) ∧ (la ≠ lb ∧ la ≠ lc ∧ lb ≠ lc) ∧ (w0 ≠ w1 ∧ w0 ≠ w2 ∧ w1 ≠ w2) ∧ (nm ≠ n0 ∧ nm ≠ n1 ∧ nm ≠ n2 ∧ n0 ≠ n1 ∧ n0 ≠ n2 ∧ n1 ≠ n2) ∧ LFs G1 G2 (fun b => b = la ∨ b = q)) (hd : ∃ q nm la lb lc w0 w1 n0 n1, some df = some q ∧ GPx t0 G3 q nm la lb lc 2 1 2 4482662 [w0, w1] [n0, n1] [0, 1] [0, 1] [26990, 7304564] ∧ gL L3 G3 ∧ (G2.1 q = 0 ∧ G2.1 la = 0 ∧ G2.1 lb = 0 ∧ G2.1 lc = 0 ∧ frh G2 nm ∧ frh G2 w0 ∧ frh G2 w1 ∧ frh G2 n0 ∧ frh G2 n1) ∧ (la ≠ lb ∧ la ≠ lc ∧ lb ≠ lc) ∧ (w0 ≠ w1) ∧ (nm ≠ n0 ∧ nm ≠ n1 ∧ n0 ≠ n1) ∧ LFs G2 G3 (fun b => b = la ∨ b = q)) : RB t0 qc na df G3 := by
  obtain ⟨q, nm, la, lb, lc, w0, w1, w2, n0, n1, n2, e1, gp, -, ⟨zq, zla, zlb, zlc, fnm, fw0, fw1, fw2, fn0, fn1, fn2⟩, hl, ⟨ew01, ew02, ew12⟩, ⟨en0, en1, en2, en01, en02, en12⟩, hf⟩ := hn
  obtain ⟨q', nm', la', lb', lc', x0, x1, m0, m1, e2, gp', -, ⟨zq', zla', zlb', zlc', fnm', fx0, fx1, fm0, fm1⟩, hl', ex01, ⟨em0, em1, em01⟩, hf'⟩ := hd
  have e1 : na = q := Option.some.inj e1
  have e2 : df = q' := Option.some.inj e2
  subst e1
  subst e2
  have T0 : RT G1 (fun k j => qc) (fun _ => (24, 0)) (fun k => if k = 24 then 1 else 0) := by
    intro k j hj
    have hj : j < if k = 24 then 1 else 0 := hj
    by_cases e : k = 24
    · subst e
      have : j = 0 := by rw [if_pos rfl] at hj; omega
      subst this
      exact ⟨hq.1, rfl⟩
    · rw [if_neg e] at hj; omega
  have gw := gp.2.2.2.2.2.2
  have kw0 := (gw 0 (by simp)).1.1
  have kw1 := (gw 1 (by simp)).1.1
  have kw2 := (gw 2 (by simp)).1.1
  have kn0 := (gw 0 (by simp)).2.1
  have kn1 := (gw 1 (by simp)).2.1
  have kn2 := (gw 2 (by simp)).2.1
  obtain ⟨ad, tg, ao, a17, a18, a19, a20, a21, aw0, aw1, aw2, an0, an1, an2, T2⟩ := RT_nand (q := na) (nm := nm) (la := la) (lb := lb) (lc := lc) (w0 := w0) (w1 := w1) (w2 := w2) (n0 := n0) (n1 := n1) (n2 := n2) T0 hf rfl rfl rfl rfl rfl rfl rfl (frh0 zq) fnm (frh0 zla) (frh0 zlb) (frh0 zlc) fw0 fw1 fw2 fn0 fn1 fn2 gp.1.1 gp.2.2.1.1 gp.2.2.2.1.k.1 gp.2.2.2.2.1.k.1 gp.2.2.2.2.2.1.k.1 kw0 kw1 kw2 kn0 kn1 kn2 hl ew01 ew02 ew12 en0 en1 en2 en01 en02 en12
  have T2 := T2 (fun k => if k = 17 ∨ k = 18 ∨ k = 19 ∨ k = 20 ∨ k = 21 then 1 else if k = 22 ∨ k = 23 then 3 else if k = 24 then 1 else 0) (fun k => Nat.le_refl _)
  have gw' := gp'.2.2.2.2.2.2
  have kx0 := (gw' 0 (by simp)).1.1
  have kx1 := (gw' 1 (by simp)).1.1
  have km0 := (gw' 0 (by simp)).2.1
  have km1 := (gw' 1 (by simp)).2.1
  obtain ⟨ad', tg', bo, b17, b18, b19, b20, b21, bx0, bx1, bm0, bm1, T3⟩ := RT_dff (q := df) (nm := nm') (la := la') (lb := lb') (lc := lc') (w0 := x0) (w1 := x1) (n0 := m0) (n1 := m1) T2 hf' rfl rfl rfl rfl rfl rfl rfl (frh0 zq') fnm' (frh0 zla') (frh0 zlb') (frh0 zlc') fx0 fx1 fm0 fm1 gp'.1.1 gp'.2.2.1.1 gp'.2.2.2.1.k.1 gp'.2.2.2.2.1.k.1 gp'.2.2.2.2.2.1.k.1 kx0 kx1 km0 km1 hl' ex01 em0 em1 em01
  have T3 := T3 cnz (fun k => by
    unfold cnz
    split <;> first | decide | exact Nat.zero_le _)
  have o17 := (bo 17 0 (by decide)).trans a17
  have o18 := (bo 18 0 (by decide)).trans a18
  have o19 := (bo 19 0 (by decide)).trans a19
  have o20 := (bo 20 0 (by decide)).trans a20
  have o21 := (bo 21 0 (by decide)).trans a21
  have o220 := (bo 22 0 (by decide)).trans aw0
  have o221 := (bo 22 1 (by decide)).trans aw1
  have o222 := (bo 22 2 (by decide)).trans aw2
  have o230 := (bo 23 0 (by decide)).trans an0
  have o231 := (bo 23 1 (by decide)).trans an1
  have o232 := (bo 23 2 (by decide)).trans an2
  have o24 : ad' 24 0 = qc := (bo 24 0 (by decide)).trans (ao 24 0 (by decide))
  have hS : ∀ b, (fun b => b = la' ∨ b = df) b → G2.1 b = 0 := fun b s => by rcases s with s | s <;> rw [s] <;> assumption
  have hS1 : ∀ b, (fun b => b = la ∨ b = na) b → G1.1 b = 0 := fun b s => by rcases s with s | s <;> rw [s] <;> assumption
  have gp3 := gp.fr hf' hS
  have lq : LSx t0 G3 qc [] := by
    have l1 : LSx t0 G2 qc [] := LSx_fs (hq.x (gs.rf G1 qc)) hf (fun b a s => by have := hS1 b s; omega) (fun s => by have := hS1 qc s; rw [hq.1] at this; cases this)
    exact LSx_fs l1 hf' (fun b a s => by have := hS b s; omega) (fun s => by have := hS qc s; rw [l1.k.1] at this; cases this)
  refine ⟨ad', tg', T3, ⟨o24, o17, b17⟩, ?_, [], by rw [o24]; exact lq, Nat.zero_le _⟩
  obtain ⟨h1, h2, h3, h4, h5, h6, h7⟩ := gp3
  obtain ⟨g1, g2, g3, g4, g5, g6, g7⟩ := gp'
  have f : ∀ {G : PG} {w nm k off : Nat}, gwr G w nm k off → G.1 w = 2 ∧ G.2.2.2.2.2 w 0 = some nm ∧ G.2.1 w 1 = k ∧ G.2.1 w 2 = 1 ∧ G.2.2.1 w 3 = none ∧ G.2.1 w 4 = off ∧ G.2.1 w 5 < 65536 := fun {G w nm k off} h => ⟨h.1, h.2.1, h.2.2.1, h.2.2.2.1, h.2.2.2.2.1, h.2.2.2.2.2.1, by rw [h.2.2.2.2.2.2.1]; decide⟩
  unfold GT
  rw [o17, o18, o19, o20, o21, b17, b18, b19, b20, b21, o220, o221, o222, bx0, bx1, o230, o231, o232, bm0, bm1]
  refine ⟨⟨h1, h2.1, h2.2⟩, ⟨g1, g2.1, g2.2⟩, h3, g3, h4, g4, fun i hi => ?_, fun j hj => ?_, (h7 0 (by simp)).2, (h7 1 (by simp)).2, (h7 2 (by simp)).2, (g7 0 (by simp)).2, (g7 1 (by simp)).2⟩
  · rcases (show i = 0 ∨ i = 1 by omega) with r | r <;> subst r
    · rw [o20, o21]; exact ⟨h5, h6⟩
    · rw [b20, b21]; exact ⟨g5, g6⟩
  · rcases (show j = 0 ∨ j = 1 ∨ j = 2 ∨ j = 3 ∨ j = 4 by omega) with r | r | r | r | r <;> subst r
    · rw [o220, o230]; exact f (h7 0 (by simp)).1
    · rw [o221, o231]; exact f (h7 1 (by simp)).1
    · rw [o222, o232]; exact f (h7 2 (by simp)).1
    · rw [bx0, bm0]; exact f (g7 0 (by simp)).1
    · rw [bx1, bm1]; exact f (g7 1 (by simp)).1
