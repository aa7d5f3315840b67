/-! The chip and the pin that a name means, on both sides -/
def cad (ad : Nat → Nat → Nat) (i : Nat) : Nat := if 1 < i then ad 0 (i - 2) else ad 17 i
def pad (ad : Nat → Nat → Nat) (i x : Nat) : Nat := if 1 < i then ad 5 x else if i = 0 then ad 22 x else ad 22 (3 + x)
def pxl (ad : Nat → Nat → Nat) (i : Nat) : Nat := if 1 < i then ad 2 (i - 2) else ad 19 i
def pxs (ad : Nat → Nat → Nat) (P : PS) (i : Nat) : List Nat := if 1 < i then rga (ad 5) (P.2.2.1 17 (i - 2)) (P.2.2.1 17 (i - 2 + 1)) else if i = 0 then [ad 22 0, ad 22 1, ad 22 2] else [ad 22 3, ad 22 4]
def gnl : List (List Nat) := [[78, 97, 110, 100], [68, 102, 102]]
def gpl : List (List Nat) := [[97], [98], [111, 117, 116], [105, 110]]
theorem rw_b {cw : Nat → Int32} {y : Nat} {r : List Nat} (h : (List.range r.length).all (fun k => decide (cw (y + k) = nI (r.getD k 0) ∧ r.getD k 0 ≠ 32 ∧ r.getD k 0 < 128)) = true) : ∀ k, k < r.length → cw (y + k) = nI (r.getD k 0) ∧ r.getD k 0 ≠ 32 ∧ r.getD k 0 < 128 := fun k hk => of_decide_eq_true (List.all_eq_true.mp h k (List.mem_range.mpr hk))
theorem gwK_rw : rw_ gwK 9 0 gnl := ⟨rw_b (by decide +kernel), by decide +kernel, by decide, rw_b (by decide +kernel), by decide +kernel, by decide, rfl⟩
theorem gpK_rw : rw_ gpK 11 0 gpl := ⟨rw_b (by decide +kernel), by decide +kernel, by decide, rw_b (by decide +kernel), by decide +kernel, by decide, rw_b (by decide +kernel), by decide +kernel, by decide, rw_b (by decide +kernel), by decide +kernel, by decide, rfl⟩
section FCH
variable {t0 qc qna qdf : Nat} {ft tv gw gp : Nat → Int32} {nv : Nat → Nat} {T : Nat} {fk : Nat → Int32} {pp nn : Nat → Nat} {fh fl : Nat → Int64} {G : PG} {ad : Nat → Nat → Nat} {tg : Nat → Nat × Nat} {P : PS} {A : Nat → Nat → Nat}
theorem wd_nm {t : Nat} {r : List Nat} (h : tke ft tv nv T A fk pp nn fh fl) (ht : t ≤ T) (k : A 7 t = 1) (hr : nb r ∧ r.length ≤ 16) : (decide (wh r = fh t) && decide (wt r = fl t)) = decide (wd ft (A 8 t) (A 9 t) = r) := by
  obtain ⟨a1, a2, a3, a4⟩ := h.k1 ht k
  by_cases q : wd ft (A 8 t) (A 9 t) = r
  · rw [a3, a4, q]; simp
  · rw [decide_eq_false q]
    by_cases q1 : wh r = fh t
    · have q2 : ¬ wt r = fl t := fun q2 => q (wh_inj (wbs_nb _ _ a1) hr.1 (by rw [wd_len]; exact a2.2) hr.2 (by rw [q1, a3]) (by rw [q2, a4]))
      simp [q2]
    · simp [q1]
theorem fsm_n {wn x nm : Nat} {hh tt : Int64} {pl : Option Nat} {t : Nat} (hx : G.2.2.2.2.2 x 0 = some nm) (hn : isN G nm hh tt pl) (hw : isT fh fl pp G wn t) : fsm G wn x = (decide (hh = fh t) && decide (tt = fl t)) := by
  unfold fsm
  rw [hx]
  show (decide (G.2.2.2.2.1 nm 0 = G.2.2.2.2.1 wn 0) && decide (G.2.2.2.2.1 nm 1 = G.2.2.2.2.1 wn 1)) = _
  rw [hn.2.1, hn.2.2.1, hw.2.1, hw.2.2.1]
theorem fsm_w {wn x nm : Nat} {hh tt : Int64} {pl : Option Nat} {t : Nat} {r : List Nat} (h : tke ft tv nv T A fk pp nn fh fl) (ht : t ≤ T) (k : A 7 t = 1) (hr : nb r ∧ r.length ≤ 16) (e1 : wh r = hh) (e2 : wt r = tt) (hx : G.2.2.2.2.2 x 0 = some nm) (hn : isN G nm hh tt pl) (hw : isT fh fl pp G wn t) : fsm G wn x = decide (wd ft (A 8 t) (A 9 t) = r) := by
  rw [fsm_n hx hn hw, ← e1, ← e2]; exact wd_nm h ht k hr
theorem fsm_t {wn x nm t u : Nat} (h : tke ft tv nv T A fk pp nn fh fl) (ht : t ≤ T) (k : A 7 t = 1) (hu : u ≤ T) (ku : A 7 u = 1) (hx : G.2.2.2.2.2 x 0 = some nm) (hn : isT fh fl pp G nm u) (hw : isT fh fl pp G wn t) : fsm G wn x = m_like ft (A 8) (A 9) u t := by
  rw [fsm_n hx hn hw]; exact nm_like h hu ht ku k
theorem q_chl_s (ft : Nat → Int32) (P : PS) (t : Nat) : ∀ k i x, q_chl ft P t k i (some x) = some x
  | 0, _, _ => rfl
  | k + 1, i, x => by show (if some x = none then _ else some x) = some x; rw [if_neg (by simp)]
theorem q_chl_n (ft : Nat → Int32) (P : PS) (t : Nat) : ∀ k i, q_chl ft P t k i none = (m_find ft (P.2.2.1 8) (P.2.2.1 9) (P.2.2.1 16) t k i).map (fun j => 2 + j)
  | 0, _ => rfl
  | k + 1, i => by
    show (if (none : Option Nat) = none then q_chl ft P t k (i + 1) (if m_like ft (P.2.2.1 8) (P.2.2.1 9) (P.2.2.1 16 i) t = true then some (2 + i) else none) else none) = (if m_like ft (P.2.2.1 8) (P.2.2.1 9) (P.2.2.1 16 i) t = true then some i else m_find ft (P.2.2.1 8) (P.2.2.1 9) (P.2.2.1 16) t k (i + 1)).map _
    rw [if_pos rfl]
    by_cases q : m_like ft (P.2.2.1 8) (P.2.2.1 9) (P.2.2.1 16 i) t = true
    · rw [if_pos q, if_pos q, q_chl_s]; rfl
    · rw [if_neg q, if_neg q, q_chl_n ft P t k (i + 1)]
theorem gnl_nb : (nb [78, 97, 110, 100] ∧ [78, 97, 110, 100].length ≤ 16) ∧ (nb [68, 102, 102] ∧ [68, 102, 102].length ≤ 16) := by
  refine ⟨⟨fun x hx => ?_, by decide⟩, fun x hx => ?_, by decide⟩ <;> (simp only [List.mem_cons, List.not_mem_nil, or_false] at hx; omega)
/-- findChip -/
theorem fch_cmp {wn t : Nat} (hR : RF t0 qc qna qdf ft tv fh fl pp nn G ad tg P) (h : tke ft tv nv T P.2.2.1 fk pp nn fh fl) (hg : rw_ gw 9 0 gnl) (hs : ∀ k, k < P.1 15 → P.2.2.1 7 (P.2.2.1 16 k) = 1 ∧ P.2.2.1 16 k ≤ T) (ht : t ≤ T) (k : P.2.2.1 7 t = 1) (hw : isT fh fl pp G wn t) : (qna :: qdf :: rga (ad 0) 0 (P.1 15)).find? (fsm G wn) = (q_chip ft gw P t).map (cad ad) := by
  obtain ⟨h1, ⟨h2, h3, h4⟩, hG, h6, h7, -⟩ := hR
  obtain ⟨g1, g2, g3, g4, -⟩ := hG
  obtain ⟨a1, a2, a3, a4⟩ := h.k1 ht k
  have e0 := fsm_w h ht k gnl_nb.1 (by decide +kernel) (by decide +kernel) g1.2.1 g3 hw
  have e1 := fsm_w h ht k gnl_nb.2 (by decide +kernel) (by decide +kernel) g2.2.1 g4 hw
  have ef : (rga (ad 0) 0 (P.1 15)).find? (fsm G wn) = (m_find ft (P.2.2.1 8) (P.2.2.1 9) (P.2.2.1 16) t (P.1 15) 0).map (ad 0) := find_m (P.1 15) 0 rfl (fun j _ hj => by
    obtain ⟨b1, b2, -⟩ := h7 j hj
    exact fsm_t h ht k (hs j hj).2 (hs j hj).1 b1.2.1 b2 hw)
  have ew : q_word gw 9 ft P t = wix (wd ft (P.2.2.1 8 t) (P.2.2.1 9 t)) gnl 0 := m_word_ix a1 gnl 9 0 0 hg (by decide)
  unfold q_chip
  rw [ew, ← h3, ← h4, List.find?_cons, e0]
  show _ = (q_chl ft P t (P.1 15) 0 (if wd ft (P.2.2.1 8 t) (P.2.2.1 9 t) = [78, 97, 110, 100] then some 0 else if wd ft (P.2.2.1 8 t) (P.2.2.1 9 t) = [68, 102, 102] then some 1 else none)).map (cad ad)
  by_cases q : wd ft (P.2.2.1 8 t) (P.2.2.1 9 t) = [78, 97, 110, 100]
  · rw [decide_eq_true q, if_pos q, q_chl_s]; rfl
  · rw [decide_eq_false q, if_neg q]
    show List.find? _ (ad 17 1 :: _) = _
    rw [List.find?_cons, e1]
    by_cases q2 : wd ft (P.2.2.1 8 t) (P.2.2.1 9 t) = [68, 102, 102]
    · rw [decide_eq_true q2, if_pos q2, q_chl_s]; rfl
    · rw [decide_eq_false q2, if_neg q2, q_chl_n, Option.map_map]
      show List.find? _ _ = _
      rw [ef]
      congr 1
      funext j
      show ad 0 j = if 1 < 2 + j then ad 0 (2 + j - 2) else ad 17 (2 + j)
      rw [if_pos (by omega), show 2 + j - 2 = j by omega]
theorem gpl_nb : ∀ r ∈ gpl, nb r ∧ r.length ≤ 16 := by
  intro r hr
  simp only [gpl, List.mem_cons, List.not_mem_nil, or_false] at hr
  rcases hr with rfl | rfl | rfl | rfl <;> exact ⟨fun x hx => by simp only [List.mem_cons, List.not_mem_nil, or_false] at hx; omega, by decide⟩
/-- Chip.find over the pins of a chip or gate -/
theorem pin_cmp {wn t i : Nat} (hR : RF t0 qc qna qdf ft tv fh fl pp nn G ad tg P) (h : tke ft tv nv T P.2.2.1 fk pp nn fh fl) (hg : rw_ gp 11 0 gpl) (hs : ∀ p, p < P.1 18 → P.2.2.1 7 (P.2.2.1 20 p) = 1 ∧ P.2.2.1 20 p ≤ T) (hi : 1 < i → P.2.2.1 17 (i - 2 + 1) ≤ P.1 18) (ht : t ≤ T) (k : P.2.2.1 7 t = 1) (hw : isT fh fl pp G wn t) : (pxs ad P i).find? (fsm G wn) = (q_pin ft gp P i t).map (pad ad i) := by
  obtain ⟨a1, a2, a3, a4⟩ := h.k1 ht k
  unfold pxs q_pin
  by_cases c1 : 1 < i
  · rw [if_pos c1, if_pos c1]
    unfold q_own
    have e := find_m (ft := ft) (ta := P.2.2.1 8) (ts := P.2.2.1 9) (at_ := P.2.2.1 20) (f := ad 5) (p := fsm G wn) (t := t) (e := P.2.2.1 17 (i - 2 + 1)) (P.2.2.1 17 (i - 2 + 1) - P.2.2.1 17 (i - 2)) (P.2.2.1 17 (i - 2)) rfl (fun j _ hj => by
      have hj : j < P.1 18 := Nat.lt_of_lt_of_le hj (hi c1)
      obtain ⟨b1, b2⟩ := hR.2.2.2.2.2.1 j hj
      exact fsm_t h ht k (hs j hj).2 (hs j hj).1 b1.2.1 b2 hw)
    rw [e]
    congr 1
    funext x
    unfold pad; rw [if_pos c1]
  · have hG := hR.2.2.1
    obtain ⟨-, -, -, -, -, -, -, g8, n0, n1, n2, n3, n4⟩ := hG
    have ew : q_word gp 11 ft P t = wix (wd ft (P.2.2.1 8 t) (P.2.2.1 9 t)) gpl 0 := m_word_ix a1 gpl 11 0 0 hg (by decide)
    have f0 := fsm_w h ht k (gpl_nb [97] (by simp [gpl])) (by decide +kernel) (by decide +kernel) (g8 0 (by decide)).2.1 n0 hw
    have f1 := fsm_w h ht k (gpl_nb [98] (by simp [gpl])) (by decide +kernel) (by decide +kernel) (g8 1 (by decide)).2.1 n1 hw
    have f2 := fsm_w h ht k (gpl_nb [111, 117, 116] (by simp [gpl])) (by decide +kernel) (by decide +kernel) (g8 2 (by decide)).2.1 n2 hw
    have f3 := fsm_w h ht k (gpl_nb [105, 110] (by simp [gpl])) (by decide +kernel) (by decide +kernel) (g8 3 (by decide)).2.1 n3 hw
    have f4 := fsm_w h ht k (gpl_nb [111, 117, 116] (by simp [gpl])) (by decide +kernel) (by decide +kernel) (g8 4 (by decide)).2.1 n4 hw
    rw [if_neg c1, if_neg c1, ew]
    generalize wd ft (P.2.2.1 8 t) (P.2.2.1 9 t) = W at f0 f1 f2 f3 f4 ⊢
    by_cases w0 : W = [97]
    · subst w0
      rcases (show i = 0 ∨ i = 1 by omega) with rfl | rfl <;> simp [wix, gpl, f0, f1, f2, f3, f4, pad, List.find?]
    by_cases w1 : W = [98]
    · subst w1
      rcases (show i = 0 ∨ i = 1 by omega) with rfl | rfl <;> simp [wix, gpl, f0, f1, f2, f3, f4, pad, List.find?]
    by_cases w2 : W = [111, 117, 116]
    · subst w2
      rcases (show i = 0 ∨ i = 1 by omega) with rfl | rfl <;> simp [wix, gpl, f0, f1, f2, f3, f4, pad, List.find?]
    by_cases w3 : W = [105, 110]
    · subst w3
      rcases (show i = 0 ∨ i = 1 by omega) with rfl | rfl <;> simp [wix, gpl, f0, f1, f2, f3, f4, pad, List.find?]
    · rcases (show i = 0 ∨ i = 1 by omega) with rfl | rfl <;> simp [wix, gpl, f0, f1, f2, f3, f4, pad, List.find?, w0, w1, w2, w3]
end FCH
