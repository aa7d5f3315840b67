/-! The names are looked up: resolve -/
/-- as wl, but for the rows of masks -/
def wk (tv : Nat → Int32) (nv : Nat → Nat) (T : Nat) (P : PS) : Prop := ((∀ k j, k ≠ 48 → k ≠ 49 → P.2.2.1 k j < bk k) ∧ ∀ k j z, P.2.2.2.1 k j = some z → z < 1002) ∧ okp T P ∧ tkv tv nv T P.2.2.1
theorem wl.wk {tv : Nat → Int32} {nv : Nat → Nat} {T : Nat} {P : PS} (h : wl tv nv T P) : wk tv nv T P := ⟨⟨fun k j _ _ => h.1.1 k j, h.1.2⟩, h.2⟩
def KC (ft tv gw gp : Nat → Int32) (nv : Nat → Nat) (T : Nat) (fk : Nat → Int32) (pp nn : Nat → Nat) (fh fl : Nat → Int64) (P : PS) : Prop := tke ft tv nv T P.2.2.1 fk pp nn fh fl ∧ wk tv nv T P ∧ PT ft tv nv P ∧ rw_ gw 9 0 gnl ∧ rw_ gp 11 0 gpl
theorem m_find_at {ft : Nat → Int32} {ta ts f : Nat → Nat} {t : Nat} : ∀ k p y, m_find ft ta ts f t k p = some y → m_like ft ta ts (f y) t = true
  | 0, _, _, h => by cases h
  | k + 1, p, y, h => by
    have h : (if m_like ft ta ts (f p) t = true then some p else m_find ft ta ts f t k (p + 1)) = some y := h
    split at h
    · rename_i q; cases h; exact q
    · exact m_find_at k (p + 1) y h
theorem m_find_like {ft : Nat → Int32} {ta ts f : Nat → Nat} {t u : Nat} : ∀ k p, (∀ j, p ≤ j → j < p + k → m_like ft ta ts (f j) t = m_like ft ta ts (f j) u) → m_find ft ta ts f t k p = m_find ft ta ts f u k p
  | 0, _, _ => rfl
  | k + 1, p, h => by
    show (if m_like ft ta ts (f p) t = true then some p else m_find ft ta ts f t k (p + 1)) = (if m_like ft ta ts (f p) u = true then some p else m_find ft ta ts f u k (p + 1))
    rw [h p (Nat.le_refl _) (by omega), m_find_like k (p + 1) (fun j a b => h j (by omega) (by omega))]
section KCS
variable {t0 qc qna qdf : Nat} {ft tv gw gp : Nat → Int32} {nv : Nat → Nat} {T : Nat} {fk : Nat → Int32} {pp nn : Nat → Nat} {fh fl : Nat → Int64} {G G' : PG} {ad : Nat → Nat → Nat} {tg : Nat → Nat × Nat} {P S : PS} {c q l i x : Nat}
theorem KC.p17 (h : KC ft tv gw gp nv T fk pp nn fh fl P) (hc : c < P.1 15) : P.2.2.1 17 c ≤ P.2.2.1 17 (c + 1) ∧ P.2.2.1 17 (c + 1) ≤ P.1 18 := by
  obtain ⟨hs, -, -, -, e, -⟩ := h.2.2.1
  by_cases z : c + 1 < P.1 15
  · exact ⟨(hs.1.fm c (c + 1) (by omega) z).1, (hs.1.fm c (c + 1) (by omega) z).2⟩
  · rw [show c + 1 = P.1 15 by omega, e]; exact ⟨(hs.1.fm c c (Nat.le_refl _) hc).2, Nat.le_refl _⟩
theorem KC.p23 (h : KC ft tv gw gp nv T fk pp nn fh fl P) (hc : c < P.1 15) : P.2.2.1 23 c ≤ P.2.2.1 23 (c + 1) ∧ P.2.2.1 23 (c + 1) ≤ P.1 24 := by
  obtain ⟨hs, -, -, -, -, e, -⟩ := h.2.2.1
  by_cases z : c + 1 < P.1 15
  · exact ⟨(hs.2.1.fm c (c + 1) (by omega) z).1, (hs.2.1.fm c (c + 1) (by omega) z).2⟩
  · rw [show c + 1 = P.1 15 by omega, e]; exact ⟨(hs.2.1.fm c c (Nat.le_refl _) hc).2, Nat.le_refl _⟩
theorem KC.p36 (h : KC ft tv gw gp nv T fk pp nn fh fl P) (hc : c < P.1 15) : P.2.2.1 36 c ≤ P.2.2.1 36 (c + 1) ∧ P.2.2.1 36 (c + 1) ≤ P.1 37 := by
  obtain ⟨hs, -, -, -, -, -, e, -⟩ := h.2.2.1
  by_cases z : c + 1 < P.1 15
  · exact ⟨(hs.2.2.2.1.fm c (c + 1) (by omega) z).1, (hs.2.2.2.1.fm c (c + 1) (by omega) z).2⟩
  · rw [show c + 1 = P.1 15 by omega, e]; exact ⟨(hs.2.2.2.1.fm c c (Nat.le_refl _) hc).2, Nat.le_refl _⟩
theorem KC.p26 (h : KC ft tv gw gp nv T fk pp nn fh fl P) (hq : q < P.1 24) : P.2.2.1 26 q ≤ P.2.2.1 26 (q + 1) ∧ P.2.2.1 26 (q + 1) ≤ P.1 27 := by
  obtain ⟨hs, -, -, -, -, -, -, e⟩ := h.2.2.1
  by_cases z : q + 1 < P.1 24
  · exact ⟨(hs.2.2.1.fm q (q + 1) (by omega) z).1, (hs.2.2.1.fm q (q + 1) (by omega) z).2⟩
  · rw [show q + 1 = P.1 24 by omega, e]; exact ⟨(hs.2.2.1.fm q q (Nat.le_refl _) hq).2, Nat.le_refl _⟩
theorem KC.l12 (h : KC ft tv gw gp nv T fk pp nn fh fl P) : P.1 12 ≤ T := h.2.1.2.1.2
theorem KC.cn (h : KC ft tv gw gp nv T fk pp nn fh fl P) : ∀ k, k < P.1 15 → P.2.2.1 7 (P.2.2.1 16 k) = 1 ∧ P.2.2.1 16 k ≤ T := fun k hk => by
  have := h.2.2.1.1.1.ck k hk; have := h.l12; omega
theorem KC.pn (h : KC ft tv gw gp nv T fk pp nn fh fl P) : ∀ p, p < P.1 18 → P.2.2.1 7 (P.2.2.1 20 p) = 1 ∧ P.2.2.1 20 p ≤ T := fun k hk => by
  have := h.2.2.1.1.1.pk k hk; have := h.l12; omega
theorem KC.qn (h : KC ft tv gw gp nv T fk pp nn fh fl P) : ∀ q, q < P.1 24 → P.2.2.1 7 (P.2.2.1 25 q) = 1 ∧ P.2.2.1 25 q ≤ T := fun k hk => by
  have := h.2.2.1.1.2.1.qk k hk; have := h.l12; omega
theorem KC.ln (h : KC ft tv gw gp nv T fk pp nn fh fl P) : ∀ l, l < P.1 27 → P.2.2.1 7 (P.2.2.1 28 l) = 1 ∧ P.2.2.1 28 l ≤ T ∧ P.2.2.1 32 l ≤ T := fun k hk => by
  have := h.2.2.1.1.2.2.1.lk k hk; have := h.l12; omega
theorem KC.inn (h : KC ft tv gw gp nv T fk pp nn fh fl P) : ∀ y, y < P.1 37 → P.2.2.1 7 (P.2.2.1 38 y) = 1 ∧ P.2.2.1 38 y ≤ T := fun k hk => by
  have := h.2.2.1.1.2.2.2.1.ik k hk; have := h.l12; omega
theorem KC.w21 (h : KC ft tv gw gp nv T fk pp nn fh fl P) : ∀ p, p < P.1 18 → 1 ≤ P.2.2.1 21 p ∧ P.2.2.1 21 p ≤ 16 := fun p hp => by
  obtain ⟨-, -, a, b⟩ := h.2.2.1.1.1.pk p hp
  rcases e : P.2.2.2.1 22 p with _ | t
  · rw [b e]; omega
  · rw [(a t e).2.2.2]; unfold pl_wd; split <;> omega
theorem KC.inl (h : KC ft tv gw gp nv T fk pp nn fh fl P) (hi : inl P c q l) : q < P.1 24 ∧ l < P.1 27 := by
  obtain ⟨a, ⟨b1, b2⟩, d1, d2⟩ := hi
  have := (h.p23 a).2
  have := (h.p26 (q := q) (by omega)).2
  omega
theorem q_chl_kp (hk : kp P S) (t : Nat) : ∀ k j g, q_chl ft S t k j g = q_chl ft P t k j g
  | 0, _, _ => rfl
  | k + 1, j, g => by
    show (if g = none then q_chl ft S t k (j + 1) (if m_like ft (S.2.2.1 8) (S.2.2.1 9) (S.2.2.1 16 j) t = true then some (2 + j) else none) else g) = (if g = none then q_chl ft P t k (j + 1) (if m_like ft (P.2.2.1 8) (P.2.2.1 9) (P.2.2.1 16 j) t = true then some (2 + j) else none) else g)
    rw [q_chl_kp hk t k, hk.2.1 8 (by decide) (by decide), hk.2.1 9 (by decide) (by decide), hk.2.1 16 (by decide) (by decide)]
theorem q_word_kp {row : Nat → Int32} {n t : Nat} (hk : kp P S) : q_word row n ft S t = q_word row n ft P t := by
  unfold q_word; rw [hk.2.1 8 (by decide) (by decide), hk.2.1 9 (by decide) (by decide)]
theorem q_chip_kp (hk : kp P S) (t : Nat) : q_chip ft gw S t = q_chip ft gw P t := by
  unfold q_chip; rw [q_word_kp hk, hk.1 15 (by decide) (by decide), q_chl_kp hk]
theorem q_own_kp (hk : kp P S) (t : Nat) : q_own ft S c t = q_own ft P c t := by
  unfold q_own; rw [hk.2.1 8 (by decide) (by decide), hk.2.1 9 (by decide) (by decide), hk.2.1 20 (by decide) (by decide), hk.2.1 17 (by decide) (by decide)]
theorem q_inn_kp (hk : kp P S) (t : Nat) : q_inn ft S c t = q_inn ft P c t := by
  unfold q_inn; rw [hk.2.1 8 (by decide) (by decide), hk.2.1 9 (by decide) (by decide), hk.2.1 38 (by decide) (by decide), hk.2.1 36 (by decide) (by decide)]
theorem q_pin_kp (hk : kp P S) (t : Nat) : q_pin ft gp S i t = q_pin ft gp P i t := by
  unfold q_pin; rw [q_word_kp hk, q_own_kp hk]
theorem q_chip_in (h : KC ft tv gw gp nv T fk pp nn fh fl P) {t : Nat} (ht : t ≤ T) (k : P.2.2.1 7 t = 1) (e : q_chip ft gw P t = some i) : i < P.1 15 + 2 := by
  obtain ⟨a1, -⟩ := h.1.k1 ht k
  have ew : q_word gw 9 ft P t = wix (wd ft (P.2.2.1 8 t) (P.2.2.1 9 t)) gnl 0 := m_word_ix a1 gnl 9 0 0 h.2.2.2.1 (by decide)
  unfold q_chip at e
  rcases z : q_word gw 9 ft P t with _ | v
  · rw [z, q_chl_n] at e
    rcases z2 : m_find ft (P.2.2.1 8) (P.2.2.1 9) (P.2.2.1 16) t (P.1 15) 0 with _ | y
    · rw [z2] at e; cases e
    · rw [z2] at e; cases e
      have := m_find_in _ _ _ z2
      show 2 + y < _
      omega
  · rw [z, q_chl_s] at e
    cases e
    have := wix_in _ _ _ _ (ew.symm.trans z)
    have e2 : gnl.length = 2 := rfl
    omega
/-- the pin of a part: its kind and its width -/
theorem pad_f (hR : RF t0 qc qna qdf ft tv fh fl pp nn G ad tg P) (h : KC ft tv gw gp nv T fk pp nn fh fl P) (hi : i < P.1 15 + 2) {t : Nat} (ht : t ≤ T) (k : P.2.2.1 7 t = 1) (e : q_pin ft gp P i t = some x) : G.1 (pad ad i x) = 2 ∧ G.2.1 (pad ad i x) 1 = (if m_isOut (P.2.2.2.2 19) i x = true then 1 else 0) ∧ G.2.1 (pad ad i x) 2 = m_wd (P.2.2.1 21) i x ∧ (1 ≤ m_wd (P.2.2.1 21) i x ∧ m_wd (P.2.2.1 21) i x ≤ 16) ∧ (if 1 < i then x < P.1 18 else x < 3) := by
  unfold q_pin at e
  by_cases c1 : 1 < i
  · rw [if_pos c1] at e
    have m := m_find_in _ _ _ e
    have b := h.p17 (c := i - 2) (by omega)
    have hx : x < P.1 18 := by omega
    obtain ⟨v, -⟩ := hR.2.2.2.2.2.1 x hx
    unfold pad m_isOut m_wd
    rw [if_pos c1, if_pos c1, if_pos c1, if_pos c1]
    exact ⟨v.1, v.2.2.1, v.2.2.2.1, h.w21 x hx, hx⟩
  · rw [if_neg c1] at e
    obtain ⟨a1, -⟩ := h.1.k1 ht k
    have ew : q_word gp 11 ft P t = wix (wd ft (P.2.2.1 8 t) (P.2.2.1 9 t)) gpl 0 := m_word_ix a1 gpl 11 0 0 h.2.2.2.2 (by decide)
    have g8 := hR.2.2.1.2.2.2.2.2.2.2.1
    have el : gpl.length = 4 := rfl
    unfold pad m_isOut m_wd
    rw [if_neg c1, if_neg c1, if_neg c1, if_neg c1]
    by_cases i0 : i = 0
    · rw [if_pos i0] at e ⊢
      rw [if_pos i0]
      have hx : x < 3 := by
        split at e
        · cases e
        · rename_i q
          have := wix_in _ _ _ _ (ew.symm.trans e)
          have : x ≠ 3 := fun r => q (by rw [e, r])
          omega
      have v := g8 x (by omega)
      refine ⟨v.1, ?_, v.2.2.2.1, by omega, hx⟩
      rw [v.2.2.1]
      by_cases r : x = 2
      · rw [if_pos (Or.inl r), if_pos (by simp [r])]
      · rw [if_neg (by omega), if_neg (by simp [r])]
    · rw [if_neg i0] at e ⊢
      rw [if_neg i0]
      have hx : x < 2 := by
        split at e
        · cases e; decide
        · split at e
          · cases e; decide
          · cases e
      have v := g8 (3 + x) (by omega)
      refine ⟨v.1, ?_, v.2.2.2.1, by omega, by omega⟩
      rw [v.2.2.1]
      by_cases r : x = 1
      · rw [if_pos (by omega), if_pos (by simp [r])]
      · rw [if_neg (by omega), if_neg (by simp [r])]
/-- an inner name is no pin's name -/
theorem own_inn (hR : RF t0 qc qna qdf ft tv fh fl pp nn G ad tg P) (h : KC ft tv gw gp nv T fk pp nn fh fl P) (hc : c < P.1 15) {t y : Nat} (ht : t ≤ T) (k : P.2.2.1 7 t = 1) (e : q_inn ft P c t = some y) : q_own ft P c t = none := by
  have b := m_find_in _ _ _ e
  have b2 := h.p36 hc
  have b3 := h.p17 hc
  obtain ⟨q, l, hi, e38, hw⟩ := hR.2.2.2.2.2.2.2.2.2 c y hc b.1 (by omega)
  obtain ⟨hq, hl⟩ := h.inl hi
  have ml := m_find_at _ _ _ e
  have hy := h.inn y (by omega)
  have k1 := h.1.k1 ht k
  have k2 := h.1.k1 hy.2 hy.1
  have ew := (m_like_wd k2.1 k1.1).mp ml
  -- the link that made it
  unfold wrk at hw
  split at hw
  · rename_i kk
    have eo : q_own ft P c (P.2.2.1 32 l) = none := by
      rcases z : q_own ft P c (P.2.2.1 32 l) with _ | x
      · rfl
      · rw [z] at hw
        have bx := m_find_in _ _ _ z
        have hw : some (ad 5 x) = some (ad 7 y) := hw
        exact absurd (Option.some.inj hw) (hR.1.ne (show x < cno P 5 by show x < P.1 18; omega) (show y < cno P 7 by show y < P.1 37; omega) (by omega))
    rw [← eo]
    unfold q_own
    refine m_find_like _ _ (fun j a b' => ?_)
    have hj : j < P.1 18 := by omega
    have kj := h.pn j hj
    have kj2 := h.1.k1 kj.2 kj.1
    rw [e38] at ew
    have k3 := h.1.k1 (h.ln l hl).2.2 kk
    have d1 := m_like_wd (ta := P.2.2.1 8) (ts := P.2.2.1 9) (t := P.2.2.1 20 j) (u := t) kj2.1 k1.1
    have d2 := m_like_wd (ta := P.2.2.1 8) (ts := P.2.2.1 9) (t := P.2.2.1 20 j) (u := P.2.2.1 32 l) kj2.1 k3.1
    rw [← ew, ← d2] at d1
    exact Bool.eq_iff_iff.mpr d1
  · cases hw
theorem bits_pos {o : Option Nat} {a b w : Nat} (hw : 1 ≤ w) : m_bits o a b w ≠ 0 := by unfold m_bits; split <;> omega
theorem bits_le {o : Option Nat} {a b w : Nat} (h : m_fits o a b w = true) (hw : w ≤ 16) : m_bits o a b w ≤ 16 := by
  unfold m_fits at h
  unfold m_bits
  split
  · exact hw
  · rename_i q; rw [if_neg q] at h; simp at h; omega
theorem fits_map {o : Option Nat} {a b w : Nat} (f : Nat → Nat) : m_fits (o.map f) a b w = m_fits o a b w ∧ m_bits (o.map f) a b w = m_bits o a b w := by cases o <;> exact ⟨rfl, rfl⟩
end KCS
/-- the wires' bounds -/
def WB (G : PG) (ad : Nat → Nat → Nat) (P : PS) : Prop := (∀ p, p < P.1 18 → G.2.1 (ad 5 p) 5 < 65536) ∧ (∀ y, y < P.1 37 → G.2.1 (ad 7 y) 5 < 65536 ∧ G.2.1 (ad 7 y) 2 ≤ 16) ∧ ∀ j, j < 5 → G.2.1 (ad 22 j) 5 < 65536
/-- parts below qd, links below ld and inner names below id are looked up -/
def RSV (ft gp : Nat → Int32) (P : PS) (ad : Nat → Nat → Nat) (G : PG) (S : PS) (qd ld id : Nat) : Prop :=
  (∀ q, q < qd → G.2.2.2.2.2 (ad 9 q) 2 = (S.2.2.2.1 44 q).map (cad ad) ∧ ∀ i, S.2.2.2.1 44 q = some i → i < P.1 15 + 2) ∧
  (∀ q l i, q < qd → l < ld → P.2.2.1 26 q ≤ l → l < P.2.2.1 26 (q + 1) → S.2.2.2.1 44 q = some i → G.2.2.2.2.2 (ad 12 l) 2 = (q_pin ft gp P i (P.2.2.1 28 l)).map (pad ad i)) ∧
  ∀ y, y < id → (S.2.2.2.1 39 y = some 0 → G.2.2.2.1 (ad 7 y) 6 = false) ∧ (S.2.2.2.1 39 y ≠ some 0 → G.2.2.2.1 (ad 7 y) 6 = true ∧ G.2.1 (ad 7 y) 2 = (S.2.2.2.1 39 y).getD 0)
/-- what resolve leaves -/
def rq (P : PS) (ad : Nat → Nat → Nat) (id : Nat) (G G' : PG) : Prop := sq G G' ∧ (∀ b k, k ≠ 2 → G'.2.1 b k = G.2.1 b k) ∧ ∀ y, id ≤ y → y < P.1 37 → G'.2.2.2.1 (ad 7 y) 6 = G.2.2.2.1 (ad 7 y) 6
theorem rq.rf (P : PS) (ad : Nat → Nat → Nat) (id : Nat) (G : PG) : rq P ad id G G := ⟨sq.rf G, fun _ _ _ => rfl, fun _ _ _ => rfl⟩
theorem rq.tr {P : PS} {ad : Nat → Nat → Nat} {id : Nat} {G G1 G2 : PG} (h : rq P ad id G G1) (h2 : rq P ad id G1 G2) : rq P ad id G G2 := ⟨h.1.tr h2.1, fun b k a => (h2.2.1 b k a).trans (h.2.1 b k a), fun y a b => (h2.2.2 y a b).trans (h.2.2 y a b)⟩
section RSS
variable {t0 qc qna qdf : Nat} {ft tv gw gp : Nat → Int32} {nv : Nat → Nat} {T : Nat} {fk : Nat → Int32} {pp nn : Nat → Nat} {fh fl : Nat → Int64} {G G' : PG} {ad : Nat → Nat → Nat} {tg : Nat → Nat × Nat} {P S : PS} {c q l i x ld id : Nat}
theorem aos_k {k k' j j' : Nat} {v : Option Nat} (h : ¬ (k' = k ∧ j' = j)) : (aos S k j v).2.2.2.1 k' j' = S.2.2.2.1 k' j' := by
  show (if k' = k then (fun i => if i = j then v else S.2.2.2.1 k i) else S.2.2.2.1 k') j' = _
  by_cases e : k' = k
  · subst e; rw [if_pos rfl]; exact if_neg (fun r => h ⟨rfl, r⟩)
  · rw [if_neg e]
theorem aos_s {k j : Nat} {v : Option Nat} : (aos S k j v).2.2.2.1 k j = v := by
  show (if k = k then (fun i => if i = j then v else S.2.2.2.1 k i) else S.2.2.2.1 k) j = _
  rw [if_pos rfl]; exact if_pos rfl
/-- a part's chip is looked up -/
theorem part_rs (hR : RF t0 qc qna qdf ft tv fh fl pp nn G ad tg P) (h : KC ft tv gw gp nv T fk pp nn fh fl P) (hk : kp P S) (hq : q < P.1 24) (hl : ld ≤ P.2.2.1 26 q) (r : RSV ft gp P ad G S q ld id) :
    RSV ft gp P ad (gR G (ad 9 q) 2 ((q_chip ft gw P (P.2.2.1 25 q)).map (cad ad))) (fi_is ft gw q S) (q + 1) ld id ∧ rq P ad id G (gR G (ad 9 q) 2 ((q_chip ft gw P (P.2.2.1 25 q)).map (cad ad))) ∧ (fi_is ft gw q S).2.2.2.1 44 q = q_chip ft gw P (P.2.2.1 25 q) := by
  have e5 : G.1 (ad 9 q) = 5 := (hR.1 9 q hq).1
  have eS : fi_is ft gw q S = aos S 44 q (q_chip ft gw P (P.2.2.1 25 q)) := by unfold fi_is; rw [q_chip_kp hk, hk.2.1 25 (by decide) (by decide)]
  rw [eS]
  obtain ⟨r1, r2, r3⟩ := r
  refine ⟨⟨fun q' hq' => ?_, fun q' l i a b d e f => ?_, fun y hy => ?_⟩, ⟨sq_R (Or.inr e5), fun _ _ _ => rfl, fun _ _ _ => rfl⟩, aos_s⟩
  · by_cases e : q' = q
    · subst e
      rw [aos_s]
      exact ⟨up2_s _ _ _ _, fun i ei => q_chip_in h (h.qn q' hq).2 (h.qn q' hq).1 ei⟩
    · rw [aos_k (fun z => e z.2)]
      refine ⟨?_, (r1 q' (by omega)).2⟩
      show up2 G.2.2.2.2.2 (ad 9 q) 2 _ (ad 9 q') 2 = _
      rw [up2_a _ _ _ _ (hR.1.ne (show q' < cno P 9 by show q' < P.1 24; omega) (show q < cno P 9 from hq) (by omega))]
      exact (r1 q' (by omega)).1
  · have ne : q' ≠ q := fun z => by rw [z] at d; omega
    rw [aos_k (fun z => ne z.2)] at f
    show up2 G.2.2.2.2.2 (ad 9 q) 2 _ (ad 12 l) 2 = _
    have hl2 : l < P.1 27 := by have := (h.p26 hq).1; have := (h.p26 hq).2; omega
    rw [up2_a _ _ _ _ (hR.1.ne (show l < cno P 12 from hl2) (show q < cno P 9 from hq) (by omega))]
    exact r2 q' l i (by omega) b d e f
  · rw [aos_k (fun z => absurd z.1 (by decide))]
    exact r3 y hy
/-- a link's pin is looked up, and its inner name given -/
theorem link_rs (hR : RF t0 qc qna qdf ft tv fh fl pp nn G ad tg P) (h : KC ft tv gw gp nv T fk pp nn fh fl P) (hk : kp P S) (hi : inl P c q l) (hid : id = P.2.2.1 36 (c + 1)) (h44 : S.2.2.2.1 44 q = some i) (r : RSV ft gp P ad G S (q + 1) l id) (wb : WB G ad P) :
    RSV ft gp P ad (gvi (gR G (ad 12 l) 2 ((q_pin ft gp P i (P.2.2.1 28 l)).map (pad ad i))) (ad 12 l) (ad 13 l)) (fi_link ft gp c i l S) (q + 1) (l + 1) id ∧ rq P ad id G (gvi (gR G (ad 12 l) 2 ((q_pin ft gp P i (P.2.2.1 28 l)).map (pad ad i))) (ad 12 l) (ad 13 l)) ∧ WB (gvi (gR G (ad 12 l) 2 ((q_pin ft gp P i (P.2.2.1 28 l)).map (pad ad i))) (ad 12 l) (ad 13 l)) ad P ∧ (fi_link ft gp c i l S).2.2.2.1 44 = S.2.2.2.1 44 := by
  obtain ⟨hq, hl⟩ := h.inl hi
  have hc := hi.1
  have e4 : G.1 (ad 12 l) = 4 := (hR.1 12 l hl).1
  obtain ⟨k1, k2, -, -, -, k6⟩ := hR.2.2.2.2.2.2.2.2.1 c q l hi
  have tl := h.ln l hl
  have hi2 := (r.1 q (by omega)).2 i h44
  have b36 := h.p36 hc
  obtain ⟨r1, r2, r3⟩ := r
  -- with the pin alone
  have R1 : RSV ft gp P ad (gR G (ad 12 l) 2 ((q_pin ft gp P i (P.2.2.1 28 l)).map (pad ad i))) S (q + 1) (l + 1) id := by
    refine ⟨fun q' hq' => ?_, fun q' l' i' a b d e f => ?_, fun y hy => r3 y hy⟩
    · refine ⟨?_, (r1 q' hq').2⟩
      show up2 G.2.2.2.2.2 (ad 12 l) 2 _ (ad 9 q') 2 = _
      rw [up2_a _ _ _ _ (hR.1.ne (show q' < cno P 9 by show q' < P.1 24; omega) (show l < cno P 12 from hl) (by omega))]
      exact (r1 q' hq').1
    · show up2 G.2.2.2.2.2 (ad 12 l) 2 _ (ad 12 l') 2 = _
      by_cases el : l' = l
      · subst el
        have eq : q' = q := by
          rcases Nat.lt_trichotomy q' q with z | z | z
          · have := (h.2.2.1.1.2.2.1.fm (q' + 1) q (by omega) hq).1
            have := hi.2.2.1
            omega
          · exact z
          · omega
        rw [eq, h44] at f
        cases f
        rw [up2_s]
      · rw [up2_a _ _ _ _ (hR.1.ne (show l' < cno P 12 by show l' < P.1 27; omega) (show l < cno P 12 from hl) (by omega))]
        exact r2 q' l' i' a (by omega) d e f
  have Q1 : rq P ad id G (gR G (ad 12 l) 2 ((q_pin ft gp P i (P.2.2.1 28 l)).map (pad ad i))) := ⟨sq_R (Or.inl e4), fun _ _ _ => rfl, fun _ _ _ => rfl⟩
  have W1 : WB (gR G (ad 12 l) 2 ((q_pin ft gp P i (P.2.2.1 28 l)).map (pad ad i))) ad P := wb
  have eP : (gR G (ad 12 l) 2 ((q_pin ft gp P i (P.2.2.1 28 l)).map (pad ad i))).2.2.2.2.2 (ad 12 l) 2 = (q_pin ft gp P i (P.2.2.1 28 l)).map (pad ad i) := up2_s _ _ _ _
  have eW : (gR G (ad 12 l) 2 ((q_pin ft gp P i (P.2.2.1 28 l)).map (pad ad i))).2.2.2.2.2 (ad 12 l) 3 = wrk ft ad P c l := (up2_k _ _ _ _ (by decide)).trans k1.2.2.2
  have n1 : (gR G (ad 12 l) 2 ((q_pin ft gp P i (P.2.2.1 28 l)).map (pad ad i))).2.1 = G.2.1 := rfl
  have n2 : (gR G (ad 12 l) 2 ((q_pin ft gp P i (P.2.2.1 28 l)).map (pad ad i))).2.2.1 = G.2.2.1 := rfl
  have n3 : (gR G (ad 12 l) 2 ((q_pin ft gp P i (P.2.2.1 28 l)).map (pad ad i))).2.2.2.1 = G.2.2.2.1 := rfl
  have n0 : (gR G (ad 12 l) 2 ((q_pin ft gp P i (P.2.2.1 28 l)).map (pad ad i))).1 = G.1 := rfl
  generalize gR G (ad 12 l) 2 ((q_pin ft gp P i (P.2.2.1 28 l)).map (pad ad i)) = G1 at *
  unfold gvi
  rw [eP, eW]
  have fl0 : fi_link ft gp c i l S = match q_pin ft gp P i (P.2.2.1 28 l) with
    | none => S
    | some x => match q_ri ft P c l with
      | none => S
      | some y => if m_isOut (P.2.2.2.2 19) i x = true ∧ S.2.2.2.1 39 y = some 0 then aos S 39 y (q_lb P i x l) else S := by
    unfold fi_link q_ri q_lb
    rw [q_pin_kp hk, q_inn_kp hk, hk.2.1 28 (by decide) (by decide), hk.2.1 7 (by decide) (by decide), hk.2.1 32 (by decide) (by decide), hk.2.2.2 19 (by decide), hk.2.2.1 29 (by decide) (by decide), hk.2.1 30 (by decide) (by decide), hk.2.1 31 (by decide) (by decide), hk.2.1 21 (by decide) (by decide)]
    rcases q_pin ft gp P i (P.2.2.1 28 l) with _ | x
    · rfl
    · rcases (if P.2.2.1 7 (P.2.2.1 32 l) = 1 then q_inn ft P c (P.2.2.1 32 l) else none) with _ | y <;> rfl
  rw [fl0]
  have same : RSV ft gp P ad G1 S (q + 1) (l + 1) id ∧ rq P ad id G G1 ∧ WB G1 ad P ∧ S.2.2.2.1 44 = S.2.2.2.1 44 := ⟨R1, Q1, W1, rfl⟩
  rcases ep : q_pin ft gp P i (P.2.2.1 28 l) with _ | x
  · exact same
  obtain ⟨p1, p2, p3, p4, -⟩ := pad_f hR h hi2 tl.2.1 tl.1 ep
  by_cases k7 : P.2.2.1 7 (P.2.2.1 32 l) = 1
  · have ew : wrk ft ad P c l = (match q_own ft P c (P.2.2.1 32 l) with | some x => some (ad 5 x) | none => (q_inn ft P c (P.2.2.1 32 l)).map (ad 7)) := if_pos k7
    have er : q_ri ft P c l = q_inn ft P c (P.2.2.1 32 l) := if_pos k7
    rw [ew, er]
    rcases eo : q_own ft P c (P.2.2.1 32 l) with _ | z
    · rcases ei : q_inn ft P c (P.2.2.1 32 l) with _ | y
      · exact same
      · have by_ := m_find_in _ _ _ ei
        have hy : y < P.1 37 := by omega
        have hyid : y < id := by omega
        obtain ⟨w1, -⟩ := hR.2.2.2.2.2.2.1 y hy
        obtain ⟨i1, i2⟩ := r3 y hyid
        have g6 : (G.2.2.2.1 (ad 7 y) 6 = false) ↔ S.2.2.2.1 39 y = some 0 := ⟨fun e => Classical.byContradiction (fun z => by have := (i2 z).1; rw [e] at this; cases this), i1⟩
        have io : (G.2.1 (pad ad i x) 1 = 1) ↔ m_isOut (P.2.2.2.2 19) i x = true := by
          rw [p2]; split
          · rename_i q; simp [q]
          · rename_i q; simp [q]
        show RSV ft gp P ad (if G1.2.1 (pad ad i x) 1 = 1 ∧ G1.2.1 (ad 7 y) 1 = 2 ∧ G1.2.2.2.1 (ad 7 y) 6 = false then _ else G1) (if m_isOut (P.2.2.2.2 19) i x = true ∧ S.2.2.2.1 39 y = some 0 then aos S 39 y (q_lb P i x l) else S) _ _ _ ∧ rq P ad id G (if G1.2.1 (pad ad i x) 1 = 1 ∧ G1.2.1 (ad 7 y) 1 = 2 ∧ G1.2.2.2.1 (ad 7 y) 6 = false then _ else G1) ∧ WB (if G1.2.1 (pad ad i x) 1 = 1 ∧ G1.2.1 (ad 7 y) 1 = 2 ∧ G1.2.2.2.1 (ad 7 y) 6 = false then _ else G1) ad P ∧ (if m_isOut (P.2.2.2.2 19) i x = true ∧ S.2.2.2.1 39 y = some 0 then aos S 39 y (q_lb P i x l) else S).2.2.2.1 44 = _
        rw [n1, n2, n3]
        by_cases cc : m_isOut (P.2.2.2.2 19) i x = true ∧ S.2.2.2.1 39 y = some 0
        · rw [if_pos ⟨io.mpr cc.1, w1.2.2, g6.mpr cc.2⟩, if_pos cc, k2.2.2.2.1, k2.2.2.2.2.1, k2.2.2.2.2.2, p3, (fits_map pp).1, (fits_map pp).2]
          have e2 : G1.1 (ad 7 y) = 2 := by rw [n0]; exact w1.1
          have e21 : G1.2.1 (ad 7 y) 1 = 2 := by rw [n1]; exact w1.2.2
          have wl_ : (if m_fits (P.2.2.2.1 29 l) (P.2.2.1 30 l) (P.2.2.1 31 l) (m_wd (P.2.2.1 21) i x) = true then m_bits (P.2.2.2.1 29 l) (P.2.2.1 30 l) (P.2.2.1 31 l) (m_wd (P.2.2.1 21) i x) else 0) = (q_lb P i x l).getD 0 := by unfold q_lb; split <;> rfl
          have ql : (q_lb P i x l).getD 0 ≤ 16 ∧ q_lb P i x l ≠ some 0 := by
            unfold q_lb
            split
            · rename_i q
              exact ⟨bits_le q p4.2, fun e => bits_pos p4.1 (Option.some.inj e)⟩
            · exact ⟨by show 0 ≤ 16; omega, fun e => by cases e⟩
          rw [wl_]
          have sB : sq G1 (gB G1 (ad 7 y) 6 true) := sq_B
          have s2 : sq (gB G1 (ad 7 y) 6 true) (gN (gB G1 (ad 7 y) 6 true) (ad 7 y) 2 ((q_lb P i x l).getD 0)) := sq_2 e2 e21
          have ne7 : ∀ y', y' < P.1 37 → y' ≠ y → ad 7 y' ≠ ad 7 y := fun y' a b => hR.1.ne (show y' < cno P 7 from a) (show y < cno P 7 from hy) (by omega)
          refine ⟨⟨fun q' hq' => ?_, fun q' l' i' a b d e f => ?_, fun y' hy' => ?_⟩, ⟨Q1.1.tr (sB.tr s2), fun b k a => ?_, fun y' a b => ?_⟩, ⟨fun p hp => ?_, fun y' hy' => ?_, fun j hj => ?_⟩, ?_⟩
          · rw [aos_k (fun z => absurd z.1 (by decide))]; exact R1.1 q' hq'
          · rw [aos_k (fun z => absurd z.1 (by decide))] at f; exact R1.2.1 q' l' i' a b d e f
          · by_cases ey : y' = y
            · subst ey
              rw [aos_s]
              exact ⟨fun e => absurd e ql.2, fun _ => ⟨up2_s _ _ _ _, up2_s _ _ _ _⟩⟩
            · rw [aos_k (fun z => ey z.2)]
              have hne := ne7 y' (by omega) ey
              refine ⟨fun e => ?_, fun e => ⟨?_, ?_⟩⟩
              · show up2 G1.2.2.2.1 (ad 7 y) 6 true (ad 7 y') 6 = false
                rw [up2_a _ _ _ _ hne]; exact (R1.2.2 y' hy').1 e
              · show up2 G1.2.2.2.1 (ad 7 y) 6 true (ad 7 y') 6 = true
                rw [up2_a _ _ _ _ hne]; exact ((R1.2.2 y' hy').2 e).1
              · show up2 G1.2.1 (ad 7 y) 2 _ (ad 7 y') 2 = _
                rw [up2_a _ _ _ _ hne]; exact ((R1.2.2 y' hy').2 e).2
          · show up2 G1.2.1 (ad 7 y) 2 _ b k = _
            rw [up2_k _ _ _ _ a]; exact Q1.2.1 b k a
          · show up2 G1.2.2.2.1 (ad 7 y) 6 true (ad 7 y') 6 = _
            rw [up2_a _ _ _ _ (ne7 y' b (by omega))]; exact Q1.2.2 y' a b
          · show up2 G1.2.1 (ad 7 y) 2 _ (ad 5 p) 5 < _
            rw [up2_k _ _ _ _ (by decide)]; exact W1.1 p hp
          · show up2 G1.2.1 (ad 7 y) 2 _ (ad 7 y') 5 < _ ∧ up2 G1.2.1 (ad 7 y) 2 _ (ad 7 y') 2 ≤ _
            rw [up2_k _ _ _ _ (by decide)]
            refine ⟨(W1.2.1 y' hy').1, ?_⟩
            by_cases ey : y' = y
            · subst ey; rw [up2_s]; exact ql.1
            · rw [up2_a _ _ _ _ (ne7 y' hy' ey)]; exact (W1.2.1 y' hy').2
          · show up2 G1.2.1 (ad 7 y) 2 _ (ad 22 j) 5 < _
            rw [up2_k _ _ _ _ (by decide)]; exact W1.2.2 j hj
          · funext j; exact aos_k (fun z => absurd z.1 (by decide))
        · rw [if_neg (fun z => cc ⟨io.mp z.1, g6.mp z.2.2⟩), if_neg cc]
          exact same
    · have bz := m_find_in _ _ _ eo
      have b17 := h.p17 hc
      obtain ⟨v, -⟩ := hR.2.2.2.2.2.1 z (by omega)
      have en : q_inn ft P c (P.2.2.1 32 l) = none := by
        rcases en : q_inn ft P c (P.2.2.1 32 l) with _ | y
        · rfl
        · have := own_inn hR h hc tl.2.2 k7 en
          rw [eo] at this; cases this
      rw [en]
      show RSV ft gp P ad (if G1.2.1 (pad ad i x) 1 = 1 ∧ G1.2.1 (ad 5 z) 1 = 2 ∧ G1.2.2.2.1 (ad 5 z) 6 = false then _ else G1) S _ _ _ ∧ rq P ad id G (if G1.2.1 (pad ad i x) 1 = 1 ∧ G1.2.1 (ad 5 z) 1 = 2 ∧ G1.2.2.2.1 (ad 5 z) 6 = false then _ else G1) ∧ WB (if G1.2.1 (pad ad i x) 1 = 1 ∧ G1.2.1 (ad 5 z) 1 = 2 ∧ G1.2.2.2.1 (ad 5 z) 6 = false then _ else G1) ad P ∧ _
      rw [if_neg (fun q9 => by have := q9.2.1; rw [n1, v.2.2.1] at this; split at this <;> omega)]
      exact same
  · have ew : wrk ft ad P c l = none := if_neg k7
    have er : q_ri ft P c l = none := if_neg k7
    rw [ew, er]
    exact same
end RSS
