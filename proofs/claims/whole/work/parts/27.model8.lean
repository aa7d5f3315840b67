/-- what holds of the tokens all along: kinds below 8, the last one T is none that is taken, numbers are numbers, places in the text -/
def tkv (tv : Nat → Int32) (nv : Nat → Nat) (T : Nat) (ar : Nat → Nat → Nat) : Prop :=
  (∀ j, ar 7 j < 8) ∧ (T < 1002 ∧ ar 7 T ≠ 1 ∧ ar 7 T ≠ 2 ∧ ar 7 T ≠ 4 ∧ ar 7 T ≠ 5) ∧ (∀ t, ar 7 t = 2 → tv t = nI (nv t) ∧ nv t ≤ 99) ∧ ∀ t, ar 8 t + ar 9 t ≤ 2000
theorem sg_k {tv : Nat → Int32} {c : Int32} {P : PS} (h : sg tv c P = true) : P.2.2.1 7 (P.1 12) = 4 := by
  unfold sg at h; simp at h; exact h.1
theorem sw_k {tv : Nat → Int32} {c : Int32} {P : PS} (h : sw tv c P = true) : P.2.2.1 7 (P.1 12) = 5 := by
  unfold sw at h; simp at h; exact h.1
/-- a step over a token that is taken stays at or ahead of the last one -/
theorem tk_next {tv : Nat → Int32} {nv : Nat → Nat} {T : Nat} {P : PS} (h : tkv tv nv T P.2.2.1) (hn : P.1 12 ≤ T) (hk : P.2.2.1 7 (P.1 12) = 1 ∨ P.2.2.1 7 (P.1 12) = 2 ∨ P.2.2.1 7 (P.1 12) = 4 ∨ P.2.2.1 7 (P.1 12) = 5) : P.1 12 + 1 ≤ T := by
  rcases Nat.eq_or_lt_of_le hn with e | e
  · rw [e] at hk
    obtain ⟨-, ⟨-, h1, h2, h4, h5⟩, -⟩ := h
    rcases hk with q | q | q | q
    · exact absurd q h1
    · exact absurd q h2
    · exact absurd q h4
    · exact absurd q h5
  · exact e
/-- what a state keeps: the fault's number is small, the token at hand is at or ahead of the last; its rows stay -/
def okp (T : Nat) (P : PS) : Prop := P.1 13 ≤ 6 ∧ P.1 12 ≤ T
theorem okp_syntax {T : Nat} {P : PS} (h : okp T P) : okp T (sp_syntax P) := ⟨sp_syntax_13 P h.1, by rw [sp_syntax_12]; exact h.2⟩
theorem okp_wrong {T nb t : Nat} {P : PS} (h : okp T P) (hn : nb ≤ 6) : okp T (sp_wrong nb t P) := ⟨sp_wrong_13 nb t P h.1 hn, by rw [sp_wrong_12]; exact h.2⟩
theorem okp_go {T : Nat} {P : PS} (h : okp T P) (h1 : P.1 12 + 1 ≤ T) : okp T (sp_go P) := ⟨h.1, by show (if P.1 13 = 0 then P.1 12 + 1 else P.1 12) ≤ T; split <;> omega⟩
theorem ar_wrong (nb t : Nat) (P : PS) : (sp_wrong nb t P).2 = P.2 := by unfold sp_wrong; split <;> rfl
theorem ar_syntax (P : PS) : (sp_syntax P).2 = P.2 := ar_wrong _ _ P
theorem ar_go (P : PS) : (sp_go P).2 = P.2 := rfl
theorem ar_sign (tv : Nat → Int32) (c : Int32) (P : PS) : (sp_sign tv c P).2 = P.2 := by unfold sp_sign; split; rfl; exact ar_syntax P
theorem ar_word (tv : Nat → Int32) (c : Int32) (P : PS) : (sp_word tv c P).2 = P.2 := by unfold sp_word; split; rfl; exact ar_syntax P
theorem ar_number (P : PS) : (sp_number P).2 = P.2 := by unfold sp_number; split; rfl; exact ar_syntax P
theorem ar_name (P : PS) : (sp_name P).2 = P.2 := by unfold sp_name; split; rfl; exact ar_syntax P
theorem ar_room (a b t : Nat) (P : PS) : (sp_room a b t P).2 = P.2 := by unfold sp_room; split; rfl; exact ar_wrong _ _ P
theorem okp_sign {tv : Nat → Int32} {nv : Nat → Nat} {T : Nat} {c : Int32} {P : PS} (h : okp T P) (hT : tkv tv nv T P.2.2.1) : okp T (sp_sign tv c P) := by
  unfold sp_sign; split
  · rename_i q; exact okp_go h (tk_next hT h.2 (Or.inr (Or.inr (Or.inl (sg_k q)))))
  · exact okp_syntax h
theorem okp_word {tv : Nat → Int32} {nv : Nat → Nat} {T : Nat} {c : Int32} {P : PS} (h : okp T P) (hT : tkv tv nv T P.2.2.1) : okp T (sp_word tv c P) := by
  unfold sp_word; split
  · rename_i q; exact okp_go h (tk_next hT h.2 (Or.inr (Or.inr (Or.inr (sw_k q)))))
  · exact okp_syntax h
theorem okp_number {tv : Nat → Int32} {nv : Nat → Nat} {T : Nat} {P : PS} (h : okp T P) (hT : tkv tv nv T P.2.2.1) : okp T (sp_number P) := by
  unfold sp_number; split
  · rename_i q; exact okp_go h (tk_next hT h.2 (Or.inr (Or.inl q)))
  · exact okp_syntax h
theorem okp_name {tv : Nat → Int32} {nv : Nat → Nat} {T : Nat} {P : PS} (h : okp T P) (hT : tkv tv nv T P.2.2.1) : okp T (sp_name P) := by
  unfold sp_name; split
  · rename_i q; exact okp_go h (tk_next hT h.2 (Or.inl q))
  · exact okp_syntax h
theorem okp_room {T a b t : Nat} {P : PS} (h : okp T P) : okp T (sp_room a b t P) := by
  unfold sp_room; split
  · exact h
  · exact okp_wrong h (by decide)
def m_find (ft : Nat → Int32) (ta ts : Nat → Nat) (at_ : Nat → Nat) (t : Nat) : Nat → Nat → Option Nat
  | 0, _ => none
  | k + 1, p => if m_like ft ta ts (at_ p) t = true then some p else m_find ft ta ts at_ t k (p + 1)
theorem m_find_u (ft : Nat → Int32) (ta ts at_ : Nat → Nat) (t e p : Nat) : m_find ft ta ts at_ t (e - p) p = if p < e then (if m_like ft ta ts (at_ p) t = true then some p else m_find ft ta ts at_ t (e - (p + 1)) (p + 1)) else none := by
  by_cases h : p < e
  · rw [if_pos h, show e - p = (e - (p + 1)) + 1 by omega]; rfl
  · rw [if_neg h, show e - p = 0 by omega]; rfl
theorem m_find_in {ft : Nat → Int32} {ta ts at_ : Nat → Nat} {t : Nat} : ∀ k p r, m_find ft ta ts at_ t k p = some r → p ≤ r ∧ r < p + k
  | 0, p, r, h => by cases h
  | k + 1, p, r, h => by
    have h : (if m_like ft ta ts (at_ p) t = true then some p else m_find ft ta ts at_ t k (p + 1)) = some r := h
    split at h
    · cases h; omega
    · have := m_find_in k (p + 1) r h; omega
theorem d_Model_pinOf_0 : decode b_Model_pinOf 0 = .ok (.aload_n 0, 1) := by decide +kernel
theorem d_Model_pinOf_1 : decode b_Model_pinOf 1 = .ok (.getfield 36, 3) := by decide +kernel
theorem d_Model_pinOf_4 : decode b_Model_pinOf 4 = .ok (.iload_n 1, 1) := by decide +kernel
theorem d_Model_pinOf_5 : decode b_Model_pinOf 5 = .ok (.iaload, 1) := by decide +kernel
theorem d_Model_pinOf_6 : decode b_Model_pinOf 6 = .ok (.istore_n 3, 1) := by decide +kernel
theorem d_Model_pinOf_7 : decode b_Model_pinOf 7 = .ok (.iload_n 3, 1) := by decide +kernel
theorem d_Model_pinOf_8 : decode b_Model_pinOf 8 = .ok (.aload_n 0, 1) := by decide +kernel
theorem d_Model_pinOf_9 : decode b_Model_pinOf 9 = .ok (.getfield 36, 3) := by decide +kernel
theorem d_Model_pinOf_12 : decode b_Model_pinOf 12 = .ok (.iload_n 1, 1) := by decide +kernel
theorem d_Model_pinOf_13 : decode b_Model_pinOf 13 = .ok (.iconst 1, 1) := by decide +kernel
theorem d_Model_pinOf_14 : decode b_Model_pinOf 14 = .ok (.iadd, 1) := by decide +kernel
theorem d_Model_pinOf_15 : decode b_Model_pinOf 15 = .ok (.iaload, 1) := by decide +kernel
theorem d_Model_pinOf_16 : decode b_Model_pinOf 16 = .ok (.if_icmp .ge 25, 3) := by decide +kernel
theorem d_Model_pinOf_19 : decode b_Model_pinOf 19 = .ok (.aload_n 0, 1) := by decide +kernel
theorem d_Model_pinOf_20 : decode b_Model_pinOf 20 = .ok (.aload_n 0, 1) := by decide +kernel
theorem d_Model_pinOf_21 : decode b_Model_pinOf 21 = .ok (.getfield 43, 3) := by decide +kernel
theorem d_Model_pinOf_24 : decode b_Model_pinOf 24 = .ok (.iload_n 3, 1) := by decide +kernel
theorem d_Model_pinOf_25 : decode b_Model_pinOf 25 = .ok (.iaload, 1) := by decide +kernel
theorem d_Model_pinOf_26 : decode b_Model_pinOf 26 = .ok (.iload_n 2, 1) := by decide +kernel
theorem d_Model_pinOf_27 : decode b_Model_pinOf 27 = .ok (.invokevirtual 261, 3) := by decide +kernel
theorem d_Model_pinOf_30 : decode b_Model_pinOf 30 = .ok (.ifCond .eq 5, 3) := by decide +kernel
theorem d_Model_pinOf_33 : decode b_Model_pinOf 33 = .ok (.iload_n 3, 1) := by decide +kernel
theorem d_Model_pinOf_34 : decode b_Model_pinOf 34 = .ok (.ireturn, 1) := by decide +kernel
theorem d_Model_pinOf_35 : decode b_Model_pinOf 35 = .ok (.iinc 3 1, 3) := by decide +kernel
theorem d_Model_pinOf_38 : decode b_Model_pinOf 38 = .ok (.goto (-31), 3) := by decide +kernel
theorem d_Model_pinOf_41 : decode b_Model_pinOf 41 = .ok (.iconst (-1), 1) := by decide +kernel
theorem d_Model_pinOf_42 : decode b_Model_pinOf 42 = .ok (.ireturn, 1) := by decide +kernel
set_option maxHeartbeats 4000000 in
set_option maxRecDepth 100000 in
theorem lp_Model_pinOf {p : Program} {l : Launch} {e : Env} {s : State} {m : MethodId} {args : Array Value} {below : List Frame} {meth : Method} {c : Code} {Q : State → Prop} {A : Nat → Prop} {dC : Nat → ClassId} {dI : Nat → Nat → Nat} {cB cI cL cZ cC cO : ClassId} {q : Nat → Nat} {f : Nat → Value} {ft tv : Nat → Int32} {P : PS} {ch t : Nat} {r : Option Nat} (hc : ch + 1 < 18) (ht : t < 1002) (h4 : ∀ t, P.2.2.1 8 t + P.2.2.1 9 t ≤ 2000) (ha : ∀ j, P.2.2.1 20 j < 1002) (hf : ∀ j, P.2.2.1 17 j ≤ 200) (hE : P.2.2.1 17 (ch + 1) ≤ 200) (hx : p.tables.exec = Jvm.exec) (hb : c.code = b_Model_pinOf) (hml : c.maxLocals = 4) (hown : s.vm.findClass R_Model = some m.cls) (hts : ∀ w ∈ tb, w.before args s = true) (hA : ∀ q, s.heap.size ≤ q → A q) (hF : stF A s) (hK : va_K (dC, dI) cl [(cB, .byte), (cI, .int), (cL, .long), (cZ, .boolean), (cC, .char), (cO, .object "java/lang/Object")] s)
    (kx : ∀  (H : Heap) (locs : List Loc) (ls : Array Slot), va_P (dC, dI) cl (PW cI cZ q f P ft tv) H → va_D A (PW cI cZ q f P ft tv) → va_S A s.heap H locs → lv_has ls 4 [(0, .ref (q 100)), (1, .int (nI ch)), (2, .int (nI t))] → W p l e (headSpec w_Model_pinOf { frames := 1, cells := 0, slots := 0, locals := 30 }).room s m args below meth c H locs 0 0 Q (F0 m 34 ls [.int (oI r)])) (ky : ∀  (H : Heap) (locs : List Loc) (ls : Array Slot), va_P (dC, dI) cl (PW cI cZ q f P ft tv) H → va_D A (PW cI cZ q f P ft tv) → va_S A s.heap H locs → lv_has ls 4 [(0, .ref (q 100)), (1, .int (nI ch)), (2, .int (nI t))] → W p l e (headSpec w_Model_pinOf { frames := 1, cells := 0, slots := 0, locals := 30 }).room s m args below meth c H locs 0 0 Q (F0 m 42 ls [.int (oI r)])) :
    ∀ (k : Nat) (pp : Nat) (H : Heap) (locs : List Loc) (ls : Array Slot), 200 < pp + k → pp ≤ 200 → m_find ft (P.2.2.1 8) (P.2.2.1 9) (P.2.2.1 20) t (P.2.2.1 17 (ch + 1) - pp) pp = r → va_P (dC, dI) cl (PW cI cZ q f P ft tv) H → va_D A (PW cI cZ q f P ft tv) → va_S A s.heap H locs → lv_has ls 4 [(3, .int (nI pp)), (0, .ref (q 100)), (1, .int (nI ch)), (2, .int (nI t))] → W p l e (headSpec w_Model_pinOf { frames := 1, cells := 0, slots := 0, locals := 30 }).room s m args below meth c H locs 0 0 Q (F0 m 7 ls []) := by
  intro k
  induction k with
  | zero =>
    intro pp H locs ls hk hp hr hP hD hS hl
    exfalso; omega
  | succ k ih =>
    intro pp H locs ls hk hp hr hP hD hS hl
    refine lv_iload_n hx hb d_Model_pinOf_7 rfl (lv_at hl 0 rfl) ?_
    refine lv_aload_n hx hb d_Model_pinOf_8 rfl (lv_at hl 1 rfl) ?_
    refine va_get (D := (dC, dI)) (ci := 13) (v := .ref (q 17)) (C := R_Model) (T := F_Model) (N := 71) hx hb hts i_Model hown hK hP 0 rfl rfl 17 (by decide) (hts _ k_891) (fun _ h9 => h9) rfl d_Model_pinOf_9 ?_
    refine lv_iload_n hx hb d_Model_pinOf_12 rfl (lv_at hl 2 rfl) ?_
    refine lv_iconst (v := nI 1) hx hb d_Model_pinOf_13 (by decide) ?_
    refine nv_iadd hx hb d_Model_pinOf_14 ?_
    refine nv_iald hx hb hK hP 7 1 rfl rfl (by omega) (by decide) d_Model_pinOf_15 ?_
    refine nv_icmp_ge (tgt := 41) hx hb (by omega) (by omega) d_Model_pinOf_16 (by decide) (fun c_1 => ?_) (fun c_1 => ?_)
    · refine lv_iconst (v := (-1)) hx hb d_Model_pinOf_41 (by decide) ?_
      have hri : none = r := by rw [← hr, m_find_u, if_neg (by omega)]
      subst hri
      exact ky H locs ls hP hD hS (lv_sub hl [1, 2, 3] rfl)
    · refine lv_aload_n hx hb d_Model_pinOf_19 rfl (lv_at hl 1 rfl) ?_
      refine lv_aload_n hx hb d_Model_pinOf_20 rfl (lv_at hl 1 rfl) ?_
      refine va_get (D := (dC, dI)) (ci := 13) (v := .ref (q 20)) (C := R_Model) (T := F_Model) (N := 71) hx hb hts i_Model hown hK hP 0 rfl rfl 20 (by decide) (hts _ k_894) (fun _ h9 => h9) rfl d_Model_pinOf_21 ?_
      refine lv_iload_n hx hb d_Model_pinOf_24 rfl (lv_at hl 0 rfl) ?_
      refine nv_iald hx hb hK hP 9 1 rfl rfl (by omega) (by decide) d_Model_pinOf_25 ?_
      refine lv_iload_n hx hb d_Model_pinOf_26 rfl (lv_at hl 3 rfl) ?_
      refine wc_i (wc := [(q 100, .inr (13, [f 0, .ref (q 1), f 2, .int (nI (P.1 3)), f 4, .int (nI (P.1 5)), .int (nI (P.1 6)), .ref (q 7), .ref (q 8), .ref (q 9), .ref (q 10), .int (nI (P.1 11)), .int (nI (P.1 12)), .int (nI (P.1 13)), .int (nI (P.1 14)), .int (nI (P.1 15)), .ref (q 16), .ref (q 17), .int (nI (P.1 18)), .ref (q 19), .ref (q 20), .ref (q 21), .ref (q 22), .ref (q 23), .int (nI (P.1 24)), .ref (q 25), .ref (q 26), .int (nI (P.1 27)), .ref (q 28), .ref (q 29), .ref (q 30), .ref (q 31), .ref (q 32), .ref (q 33), .ref (q 34), .ref (q 35), .ref (q 36), .int (nI (P.1 37)), .ref (q 38), f 39, f 40, .int (oI (P.2.1 41)), .int (nI (P.1 42)), .int (nI (P.1 43)), f 44, f 45, f 46, f 47, f 48, f 49, f 50, f 51, f 52, f 53, f 54, f 55, f 56, f 57, f 58, f 59, f 60, f 61, f 62, f 63, f 64, f 65, f 66, f 67, f 68, f 69, f 70])), (q 1, .inl (cI, 2000, .inl ft)), (q 8, .inl (cI, 1002, .inl (nF (P.2.2.1 8)))), (q 9, .inl (cI, 1002, .inl (nF (P.2.2.1 9))))]) (wr := [(q 7, .inl (cI, 1002, .inl (nF (P.2.2.1 7)))), (q 10, .inl (cI, 1002, .inl tv)), (q 16, .inl (cI, 17, .inl (nF (P.2.2.1 16)))), (q 17, .inl (cI, 18, .inl (nF (P.2.2.1 17)))), (q 19, .inl (cZ, 200, .inl (bF (P.2.2.2.2 19)))), (q 20, .inl (cI, 200, .inl (nF (P.2.2.1 20)))), (q 21, .inl (cI, 200, .inl (nF (P.2.2.1 21)))), (q 22, .inl (cI, 200, .inl (oF (P.2.2.2.1 22)))), (q 23, .inl (cI, 18, .inl (nF (P.2.2.1 23)))), (q 25, .inl (cI, 400, .inl (nF (P.2.2.1 25)))), (q 26, .inl (cI, 401, .inl (nF (P.2.2.1 26)))), (q 28, .inl (cI, 700, .inl (nF (P.2.2.1 28)))), (q 29, .inl (cI, 700, .inl (oF (P.2.2.2.1 29)))), (q 30, .inl (cI, 700, .inl (nF (P.2.2.1 30)))), (q 31, .inl (cI, 700, .inl (nF (P.2.2.1 31)))), (q 32, .inl (cI, 700, .inl (nF (P.2.2.1 32)))), (q 33, .inl (cI, 700, .inl (oF (P.2.2.2.1 33)))), (q 34, .inl (cI, 700, .inl (nF (P.2.2.1 34)))), (q 35, .inl (cI, 700, .inl (nF (P.2.2.1 35)))), (q 36, .inl (cI, 18, .inl (nF (P.2.2.1 36)))), (q 38, .inl (cI, 700, .inl (nF (P.2.2.1 38))))]) (va_runV (As := [.int (nI ((P.2.2.1 20) pp)), .int (nI t)]) (rest := []) ⟨hx, hb, hml, hown, hts⟩ (c_Model_like l dC dI cB cI cL cZ cC cO ft (P.2.2.1 8) (P.2.2.1 9) (P.2.2.1 20 pp) t _ (ha pp) ht (h4 _) (h4 _)) (cwV 2 hts (good_V k_1210 k_1212 s_Model_like k_19 k_1213) rfl rfl rfl (by decide +kernel) ⟨Nat.le_of_ble_eq_true rfl, Nat.le_of_ble_eq_true rfl⟩) (wc_preV (k0 := 0) (ci := 13) (r := (R_Model, F_Model, 71)) hK hP hD hS hA hF [0, 1, 3, 4] (by decide) rfl rfl rfl) rfl rfl hl.1 rfl (lv_room (Nat.le_of_ble_eq_true rfl)) d_Model_pinOf_27 ⟨Nat.le_of_ble_eq_true rfl, Nat.le_of_ble_eq_true rfl⟩) hP hD hS hA [0, 1, 3, 4] [2, 5, 6, 7, 8, 9, 10, 11, 12, 13, 14, 15, 16, 17, 18, 19, 20, 21, 22, 23, 24] rfl rfl (by decide) (by decide) (fun r_3 u H locs w_2 hP hD hS => ?_)
      have hP : va_P (dC, dI) cl [(q 7, .inl (cI, 1002, .inl (nF (P.2.2.1 7)))), (q 10, .inl (cI, 1002, .inl tv)), (q 16, .inl (cI, 17, .inl (nF (P.2.2.1 16)))), (q 17, .inl (cI, 18, .inl (nF (P.2.2.1 17)))), (q 19, .inl (cZ, 200, .inl (bF (P.2.2.2.2 19)))), (q 20, .inl (cI, 200, .inl (nF (P.2.2.1 20)))), (q 21, .inl (cI, 200, .inl (nF (P.2.2.1 21)))), (q 22, .inl (cI, 200, .inl (oF (P.2.2.2.1 22)))), (q 23, .inl (cI, 18, .inl (nF (P.2.2.1 23)))), (q 25, .inl (cI, 400, .inl (nF (P.2.2.1 25)))), (q 26, .inl (cI, 401, .inl (nF (P.2.2.1 26)))), (q 28, .inl (cI, 700, .inl (nF (P.2.2.1 28)))), (q 29, .inl (cI, 700, .inl (oF (P.2.2.2.1 29)))), (q 30, .inl (cI, 700, .inl (nF (P.2.2.1 30)))), (q 31, .inl (cI, 700, .inl (nF (P.2.2.1 31)))), (q 32, .inl (cI, 700, .inl (nF (P.2.2.1 32)))), (q 33, .inl (cI, 700, .inl (oF (P.2.2.2.1 33)))), (q 34, .inl (cI, 700, .inl (nF (P.2.2.1 34)))), (q 35, .inl (cI, 700, .inl (nF (P.2.2.1 35)))), (q 36, .inl (cI, 18, .inl (nF (P.2.2.1 36)))), (q 38, .inl (cI, 700, .inl (nF (P.2.2.1 38)))), (q 100, .inr (13, [f 0, .ref (q 1), f 2, .int (nI (P.1 3)), f 4, .int (nI (P.1 5)), .int (nI (P.1 6)), .ref (q 7), .ref (q 8), .ref (q 9), .ref (q 10), .int (nI (P.1 11)), .int (nI (P.1 12)), .int (nI (P.1 13)), .int (nI (P.1 14)), .int (nI (P.1 15)), .ref (q 16), .ref (q 17), .int (nI (P.1 18)), .ref (q 19), .ref (q 20), .ref (q 21), .ref (q 22), .ref (q 23), .int (nI (P.1 24)), .ref (q 25), .ref (q 26), .int (nI (P.1 27)), .ref (q 28), .ref (q 29), .ref (q 30), .ref (q 31), .ref (q 32), .ref (q 33), .ref (q 34), .ref (q 35), .ref (q 36), .int (nI (P.1 37)), .ref (q 38), f 39, f 40, .int (oI (P.2.1 41)), .int (nI (P.1 42)), .int (nI (P.1 43)), f 44, f 45, f 46, f 47, f 48, f 49, f 50, f 51, f 52, f 53, f 54, f 55, f 56, f 57, f 58, f 59, f 60, f 61, f 62, f 63, f 64, f 65, f 66, f 67, f 68, f 69, f 70])), (q 1, .inl (cI, 2000, .inl ft)), (q 8, .inl (cI, 1002, .inl (nF (P.2.2.1 8)))), (q 9, .inl (cI, 1002, .inl (nF (P.2.2.1 9))))] H := hP
      have hD : va_D A [(q 7, .inl (cI, 1002, .inl (nF (P.2.2.1 7)))), (q 10, .inl (cI, 1002, .inl tv)), (q 16, .inl (cI, 17, .inl (nF (P.2.2.1 16)))), (q 17, .inl (cI, 18, .inl (nF (P.2.2.1 17)))), (q 19, .inl (cZ, 200, .inl (bF (P.2.2.2.2 19)))), (q 20, .inl (cI, 200, .inl (nF (P.2.2.1 20)))), (q 21, .inl (cI, 200, .inl (nF (P.2.2.1 21)))), (q 22, .inl (cI, 200, .inl (oF (P.2.2.2.1 22)))), (q 23, .inl (cI, 18, .inl (nF (P.2.2.1 23)))), (q 25, .inl (cI, 400, .inl (nF (P.2.2.1 25)))), (q 26, .inl (cI, 401, .inl (nF (P.2.2.1 26)))), (q 28, .inl (cI, 700, .inl (nF (P.2.2.1 28)))), (q 29, .inl (cI, 700, .inl (oF (P.2.2.2.1 29)))), (q 30, .inl (cI, 700, .inl (nF (P.2.2.1 30)))), (q 31, .inl (cI, 700, .inl (nF (P.2.2.1 31)))), (q 32, .inl (cI, 700, .inl (nF (P.2.2.1 32)))), (q 33, .inl (cI, 700, .inl (oF (P.2.2.2.1 33)))), (q 34, .inl (cI, 700, .inl (nF (P.2.2.1 34)))), (q 35, .inl (cI, 700, .inl (nF (P.2.2.1 35)))), (q 36, .inl (cI, 18, .inl (nF (P.2.2.1 36)))), (q 38, .inl (cI, 700, .inl (nF (P.2.2.1 38)))), (q 100, .inr (13, [f 0, .ref (q 1), f 2, .int (nI (P.1 3)), f 4, .int (nI (P.1 5)), .int (nI (P.1 6)), .ref (q 7), .ref (q 8), .ref (q 9), .ref (q 10), .int (nI (P.1 11)), .int (nI (P.1 12)), .int (nI (P.1 13)), .int (nI (P.1 14)), .int (nI (P.1 15)), .ref (q 16), .ref (q 17), .int (nI (P.1 18)), .ref (q 19), .ref (q 20), .ref (q 21), .ref (q 22), .ref (q 23), .int (nI (P.1 24)), .ref (q 25), .ref (q 26), .int (nI (P.1 27)), .ref (q 28), .ref (q 29), .ref (q 30), .ref (q 31), .ref (q 32), .ref (q 33), .ref (q 34), .ref (q 35), .ref (q 36), .int (nI (P.1 37)), .ref (q 38), f 39, f 40, .int (oI (P.2.1 41)), .int (nI (P.1 42)), .int (nI (P.1 43)), f 44, f 45, f 46, f 47, f 48, f 49, f 50, f 51, f 52, f 53, f 54, f 55, f 56, f 57, f 58, f 59, f 60, f 61, f 62, f 63, f 64, f 65, f 66, f 67, f 68, f 69, f 70])), (q 1, .inl (cI, 2000, .inl ft)), (q 8, .inl (cI, 1002, .inl (nF (P.2.2.1 8)))), (q 9, .inl (cI, 1002, .inl (nF (P.2.2.1 9))))] := hD
      subst w_2
      refine nv_bif_eq (tgt := 35) hx hb d_Model_pinOf_30 (by decide) (fun c_4 => ?_) (fun c_4 => ?_)
      · refine lv_iinc (v := nI (pp + 1)) (lv' := [(3, .int (nI (pp + 1))), (0, .ref (q 100)), (1, .int (nI ch)), (2, .int (nI t))]) hx hb d_Model_pinOf_35 hl (k := 0) rfl (nI_1 _) (by decide) rfl (fun ls hl => ?_)
        refine lv_goto (tgt := 7) hx hb d_Model_pinOf_38 (by decide) ?_
        exact ih (pp + 1) H locs ls (by omega) (by omega) (by rw [← hr, m_find_u _ _ _ _ _ _ pp, if_pos (by omega), if_neg (by rw [c_4]; decide)]) (hP.sub [21, 22, 0, 23, 24, 1, 2, 3, 4, 5, 6, 7, 8, 9, 10, 11, 12, 13, 14, 15, 16, 17, 18, 19, 20] rfl) (hD.sub [21, 22, 0, 23, 24, 1, 2, 3, 4, 5, 6, 7, 8, 9, 10, 11, 12, 13, 14, 15, 16, 17, 18, 19, 20] (by decide) rfl) hS (lv_sub hl [0, 1, 2, 3] rfl)
      · refine lv_iload_n hx hb d_Model_pinOf_33 rfl (lv_at hl 0 rfl) ?_
        have hri : some pp = r := by rw [← hr, m_find_u, if_pos (by omega), if_pos c_4]
        subst hri
        exact kx H locs ls (hP.sub [21, 22, 0, 23, 24, 1, 2, 3, 4, 5, 6, 7, 8, 9, 10, 11, 12, 13, 14, 15, 16, 17, 18, 19, 20] rfl) (hD.sub [21, 22, 0, 23, 24, 1, 2, 3, 4, 5, 6, 7, 8, 9, 10, 11, 12, 13, 14, 15, 16, 17, 18, 19, 20] (by decide) rfl) hS (lv_sub hl [1, 2, 3] rfl)
set_option maxHeartbeats 4000000 in
set_option maxRecDepth 100000 in
/-- pinOf -/
theorem c_Model_pinOf (l : Launch) (dC : Nat → ClassId) (dI : Nat → Nat → Nat) (cB cI cL cZ cC cO : ClassId) (q : Nat → Nat) (f : Nat → Value) (P : PS) (ft tv : Nat → Int32) (ch t : Nat) (sz : Nat) (hc : ch + 1 < 18) (ht : t < 1002) (h4 : ∀ t, P.2.2.1 8 t + P.2.2.1 9 t ≤ 2000) (ha : ∀ j, P.2.2.1 20 j < 1002) (hf : ∀ j, P.2.2.1 17 j ≤ 200) : Met l y_Model_pinOf w_Model_pinOf ({ frames := 1, cells := 0, slots := 0, locals := 30 }) (va_Pc [.ref (q 100), .int (nI ch), .int (nI t)] (wB (dC, dI) cl [(cB, .byte), (cI, .int), (cL, .long), (cZ, .boolean), (cC, .char), (cO, .object "java/lang/Object")] sz (PW cI cZ q f P ft tv))) (va_Qi (fun (r : Int32) (u : Unit) => r = oI (m_find ft (P.2.2.1 8) (P.2.2.1 9) (P.2.2.1 20) t (P.2.2.1 17 (ch + 1) - P.2.2.1 17 ch) (P.2.2.1 17 ch))) (fun _ t => wA (dC, dI) cl [(cB, .byte), (cI, .int), (cL, .long), (cZ, .boolean), (cC, .char), (cO, .object "java/lang/Object")] (va_A (PW cI cZ q f P ft tv) sz) (PW cI cZ q f P ft tv) t) (va_A (PW cI cZ q f P ft tv) sz)) 0 0 (va_A (PW cI cZ q f P ft tv) sz) := by
  refine Met.ofW (cc := b_Model_pinOf) (maxL := 4) (ret := (some ClassFile.FieldType.int)) (by decide) rfl ?_
  intro p e s m args below meth c s₁ B hml hv
  obtain ⟨rfl, hsz, hP, hK, hD0, hF⟩ := hv
  have hx := B.exec
  have hb := B.bytes
  have hr := B.returns
  have hts := atoms_spec (ws := w_Model_pinOf) B.pre
  have hts : ∀ w ∈ tb, w.before _ s = true := fun w h => hts w (List.mem_cons_of_mem _ h)
  have hown : s.vm.findClass R_Model = some m.cls := findClass_of_methodNamed B.named
  have hlocks := B.notSynchronized
  subst hsz
  have hD := hD0.self (sz := s.heap.size)
  generalize hAe : va_A (PW cI cZ q f P ft tv) s.heap.size = A at hD hF ⊢
  have hA : ∀ q : Nat, s.heap.size ≤ q → A q := fun q h => by rw [← hAe]; exact Or.inr h
  have hS : va_S A s.heap s.heap [] := va_S.rf
  have hP : va_P (dC, dI) cl (PW cI cZ q f P ft tv) s.heap := hP
  have hl := lv_entry ([.ref (q 100), .int (nI ch), .int (nI t)]) (n := 4) (Nat.le_of_ble_eq_true rfl)
  rw [lg_entry_eq]
  generalize (lg_sl ([.ref (q 100), .int (nI ch), .int (nI t)]) ++ List.replicate (4 - (lg_sl ([.ref (q 100), .int (nI ch), .int (nI t)])).length) Slot.unset).toArray = ls at hl ⊢
  have hl : lv_has ls 4 [(0, .ref (q 100)), (1, .int (nI ch)), (2, .int (nI t))] := hl
  refine lv_aload_n hx hb d_Model_pinOf_0 rfl (lv_at hl 0 rfl) ?_
  refine va_get (D := (dC, dI)) (ci := 13) (v := .ref (q 17)) (C := R_Model) (T := F_Model) (N := 71) hx hb hts i_Model hown hK hP 0 rfl rfl 17 (by decide) (hts _ k_891) (fun _ h9 => h9) rfl d_Model_pinOf_1 ?_
  refine lv_iload_n hx hb d_Model_pinOf_4 rfl (lv_at hl 1 rfl) ?_
  refine nv_iald hx hb hK hP 7 1 rfl rfl (by omega) (by decide) d_Model_pinOf_5 ?_
  refine lv_istore_n (lv' := [(3, .int (nI ((P.2.2.1 17) ch))), (0, .ref (q 100)), (1, .int (nI ch)), (2, .int (nI t))]) hx hb d_Model_pinOf_6 rfl hl (by decide) rfl (fun ls hl => ?_)
  refine lp_Model_pinOf (r := m_find ft (P.2.2.1 8) (P.2.2.1 9) (P.2.2.1 20) t (P.2.2.1 17 (ch + 1) - P.2.2.1 17 ch) (P.2.2.1 17 ch)) hc ht h4 ha hf (hf _) hx hb hml hown hts hA hF hK (fun H locs ls hP hD hS hl => ?_) (fun H locs ls hP hD hS hl => ?_) (200 + 1) (P.2.2.1 17 ch) _ _ ls (by omega) (hf _) rfl hP hD hS (lv_sub hl [0, 1, 2, 3] rfl)
  · exact wr_i hx hb hr hlocks () rfl hK hP hD hS d_Model_pinOf_34
  · exact wr_i hx hb hr hlocks () rfl hK hP hD hS d_Model_pinOf_42
theorem d_Model_innerOf_0 : decode b_Model_innerOf 0 = .ok (.aload_n 0, 1) := by decide +kernel
theorem d_Model_innerOf_1 : decode b_Model_innerOf 1 = .ok (.getfield 85, 3) := by decide +kernel
theorem d_Model_innerOf_4 : decode b_Model_innerOf 4 = .ok (.iload_n 1, 1) := by decide +kernel
theorem d_Model_innerOf_5 : decode b_Model_innerOf 5 = .ok (.iaload, 1) := by decide +kernel
theorem d_Model_innerOf_6 : decode b_Model_innerOf 6 = .ok (.istore_n 3, 1) := by decide +kernel
theorem d_Model_innerOf_7 : decode b_Model_innerOf 7 = .ok (.iload_n 3, 1) := by decide +kernel
theorem d_Model_innerOf_8 : decode b_Model_innerOf 8 = .ok (.aload_n 0, 1) := by decide +kernel
theorem d_Model_innerOf_9 : decode b_Model_innerOf 9 = .ok (.getfield 85, 3) := by decide +kernel
theorem d_Model_innerOf_12 : decode b_Model_innerOf 12 = .ok (.iload_n 1, 1) := by decide +kernel
theorem d_Model_innerOf_13 : decode b_Model_innerOf 13 = .ok (.iconst 1, 1) := by decide +kernel
theorem d_Model_innerOf_14 : decode b_Model_innerOf 14 = .ok (.iadd, 1) := by decide +kernel
theorem d_Model_innerOf_15 : decode b_Model_innerOf 15 = .ok (.iaload, 1) := by decide +kernel
theorem d_Model_innerOf_16 : decode b_Model_innerOf 16 = .ok (.if_icmp .ge 25, 3) := by decide +kernel
theorem d_Model_innerOf_19 : decode b_Model_innerOf 19 = .ok (.aload_n 0, 1) := by decide +kernel
theorem d_Model_innerOf_20 : decode b_Model_innerOf 20 = .ok (.aload_n 0, 1) := by decide +kernel
theorem d_Model_innerOf_21 : decode b_Model_innerOf 21 = .ok (.getfield 88, 3) := by decide +kernel
theorem d_Model_innerOf_24 : decode b_Model_innerOf 24 = .ok (.iload_n 3, 1) := by decide +kernel
theorem d_Model_innerOf_25 : decode b_Model_innerOf 25 = .ok (.iaload, 1) := by decide +kernel
theorem d_Model_innerOf_26 : decode b_Model_innerOf 26 = .ok (.iload_n 2, 1) := by decide +kernel
theorem d_Model_innerOf_27 : decode b_Model_innerOf 27 = .ok (.invokevirtual 261, 3) := by decide +kernel
theorem d_Model_innerOf_30 : decode b_Model_innerOf 30 = .ok (.ifCond .eq 5, 3) := by decide +kernel
theorem d_Model_innerOf_33 : decode b_Model_innerOf 33 = .ok (.iload_n 3, 1) := by decide +kernel
theorem d_Model_innerOf_34 : decode b_Model_innerOf 34 = .ok (.ireturn, 1) := by decide +kernel
theorem d_Model_innerOf_35 : decode b_Model_innerOf 35 = .ok (.iinc 3 1, 3) := by decide +kernel
theorem d_Model_innerOf_38 : decode b_Model_innerOf 38 = .ok (.goto (-31), 3) := by decide +kernel
theorem d_Model_innerOf_41 : decode b_Model_innerOf 41 = .ok (.iconst (-1), 1) := by decide +kernel
theorem d_Model_innerOf_42 : decode b_Model_innerOf 42 = .ok (.ireturn, 1) := by decide +kernel
set_option maxHeartbeats 4000000 in
set_option maxRecDepth 100000 in
theorem lp_Model_innerOf {p : Program} {l : Launch} {e : Env} {s : State} {m : MethodId} {args : Array Value} {below : List Frame} {meth : Method} {c : Code} {Q : State → Prop} {A : Nat → Prop} {dC : Nat → ClassId} {dI : Nat → Nat → Nat} {cB cI cL cZ cC cO : ClassId} {q : Nat → Nat} {f : Nat → Value} {ft tv : Nat → Int32} {P : PS} {ch t : Nat} {r : Option Nat} (hc : ch + 1 < 18) (ht : t < 1002) (h4 : ∀ t, P.2.2.1 8 t + P.2.2.1 9 t ≤ 2000) (ha : ∀ j, P.2.2.1 38 j < 1002) (hf : ∀ j, P.2.2.1 36 j ≤ 700) (hE : P.2.2.1 36 (ch + 1) ≤ 700) (hx : p.tables.exec = Jvm.exec) (hb : c.code = b_Model_innerOf) (hml : c.maxLocals = 4) (hown : s.vm.findClass R_Model = some m.cls) (hts : ∀ w ∈ tb, w.before args s = true) (hA : ∀ q, s.heap.size ≤ q → A q) (hF : stF A s) (hK : va_K (dC, dI) cl [(cB, .byte), (cI, .int), (cL, .long), (cZ, .boolean), (cC, .char), (cO, .object "java/lang/Object")] s)
    (kx : ∀  (H : Heap) (locs : List Loc) (ls : Array Slot), va_P (dC, dI) cl (PW cI cZ q f P ft tv) H → va_D A (PW cI cZ q f P ft tv) → va_S A s.heap H locs → lv_has ls 4 [(0, .ref (q 100)), (1, .int (nI ch)), (2, .int (nI t))] → W p l e (headSpec w_Model_innerOf { frames := 1, cells := 0, slots := 0, locals := 30 }).room s m args below meth c H locs 0 0 Q (F0 m 34 ls [.int (oI r)])) (ky : ∀  (H : Heap) (locs : List Loc) (ls : Array Slot), va_P (dC, dI) cl (PW cI cZ q f P ft tv) H → va_D A (PW cI cZ q f P ft tv) → va_S A s.heap H locs → lv_has ls 4 [(0, .ref (q 100)), (1, .int (nI ch)), (2, .int (nI t))] → W p l e (headSpec w_Model_innerOf { frames := 1, cells := 0, slots := 0, locals := 30 }).room s m args below meth c H locs 0 0 Q (F0 m 42 ls [.int (oI r)])) :
    ∀ (k : Nat) (pp : Nat) (H : Heap) (locs : List Loc) (ls : Array Slot), 700 < pp + k → pp ≤ 700 → m_find ft (P.2.2.1 8) (P.2.2.1 9) (P.2.2.1 38) t (P.2.2.1 36 (ch + 1) - pp) pp = r → va_P (dC, dI) cl (PW cI cZ q f P ft tv) H → va_D A (PW cI cZ q f P ft tv) → va_S A s.heap H locs → lv_has ls 4 [(3, .int (nI pp)), (0, .ref (q 100)), (1, .int (nI ch)), (2, .int (nI t))] → W p l e (headSpec w_Model_innerOf { frames := 1, cells := 0, slots := 0, locals := 30 }).room s m args below meth c H locs 0 0 Q (F0 m 7 ls []) := by
  intro k
  induction k with
  | zero =>
    intro pp H locs ls hk hp hr hP hD hS hl
    exfalso; omega
  | succ k ih =>
    intro pp H locs ls hk hp hr hP hD hS hl
    refine lv_iload_n hx hb d_Model_innerOf_7 rfl (lv_at hl 0 rfl) ?_
    refine lv_aload_n hx hb d_Model_innerOf_8 rfl (lv_at hl 1 rfl) ?_
    refine va_get (D := (dC, dI)) (ci := 13) (v := .ref (q 36)) (C := R_Model) (T := F_Model) (N := 71) hx hb hts i_Model hown hK hP 0 rfl rfl 36 (by decide) (hts _ k_910) (fun _ h9 => h9) rfl d_Model_innerOf_9 ?_
    refine lv_iload_n hx hb d_Model_innerOf_12 rfl (lv_at hl 2 rfl) ?_
    refine lv_iconst (v := nI 1) hx hb d_Model_innerOf_13 (by decide) ?_
    refine nv_iadd hx hb d_Model_innerOf_14 ?_
    refine nv_iald hx hb hK hP 23 1 rfl rfl (by omega) (by decide) d_Model_innerOf_15 ?_
    refine nv_icmp_ge (tgt := 41) hx hb (by omega) (by omega) d_Model_innerOf_16 (by decide) (fun c_1 => ?_) (fun c_1 => ?_)
    · refine lv_iconst (v := (-1)) hx hb d_Model_innerOf_41 (by decide) ?_
      have hri : none = r := by rw [← hr, m_find_u, if_neg (by omega)]
      subst hri
      exact ky H locs ls hP hD hS (lv_sub hl [1, 2, 3] rfl)
    · refine lv_aload_n hx hb d_Model_innerOf_19 rfl (lv_at hl 1 rfl) ?_
      refine lv_aload_n hx hb d_Model_innerOf_20 rfl (lv_at hl 1 rfl) ?_
      refine va_get (D := (dC, dI)) (ci := 13) (v := .ref (q 38)) (C := R_Model) (T := F_Model) (N := 71) hx hb hts i_Model hown hK hP 0 rfl rfl 38 (by decide) (hts _ k_912) (fun _ h9 => h9) rfl d_Model_innerOf_21 ?_
      refine lv_iload_n hx hb d_Model_innerOf_24 rfl (lv_at hl 0 rfl) ?_
      refine nv_iald hx hb hK hP 24 1 rfl rfl (by omega) (by decide) d_Model_innerOf_25 ?_
      refine lv_iload_n hx hb d_Model_innerOf_26 rfl (lv_at hl 3 rfl) ?_
      refine wc_i (wc := [(q 100, .inr (13, [f 0, .ref (q 1), f 2, .int (nI (P.1 3)), f 4, .int (nI (P.1 5)), .int (nI (P.1 6)), .ref (q 7), .ref (q 8), .ref (q 9), .ref (q 10), .int (nI (P.1 11)), .int (nI (P.1 12)), .int (nI (P.1 13)), .int (nI (P.1 14)), .int (nI (P.1 15)), .ref (q 16), .ref (q 17), .int (nI (P.1 18)), .ref (q 19), .ref (q 20), .ref (q 21), .ref (q 22), .ref (q 23), .int (nI (P.1 24)), .ref (q 25), .ref (q 26), .int (nI (P.1 27)), .ref (q 28), .ref (q 29), .ref (q 30), .ref (q 31), .ref (q 32), .ref (q 33), .ref (q 34), .ref (q 35), .ref (q 36), .int (nI (P.1 37)), .ref (q 38), f 39, f 40, .int (oI (P.2.1 41)), .int (nI (P.1 42)), .int (nI (P.1 43)), f 44, f 45, f 46, f 47, f 48, f 49, f 50, f 51, f 52, f 53, f 54, f 55, f 56, f 57, f 58, f 59, f 60, f 61, f 62, f 63, f 64, f 65, f 66, f 67, f 68, f 69, f 70])), (q 1, .inl (cI, 2000, .inl ft)), (q 8, .inl (cI, 1002, .inl (nF (P.2.2.1 8)))), (q 9, .inl (cI, 1002, .inl (nF (P.2.2.1 9))))]) (wr := [(q 7, .inl (cI, 1002, .inl (nF (P.2.2.1 7)))), (q 10, .inl (cI, 1002, .inl tv)), (q 16, .inl (cI, 17, .inl (nF (P.2.2.1 16)))), (q 17, .inl (cI, 18, .inl (nF (P.2.2.1 17)))), (q 19, .inl (cZ, 200, .inl (bF (P.2.2.2.2 19)))), (q 20, .inl (cI, 200, .inl (nF (P.2.2.1 20)))), (q 21, .inl (cI, 200, .inl (nF (P.2.2.1 21)))), (q 22, .inl (cI, 200, .inl (oF (P.2.2.2.1 22)))), (q 23, .inl (cI, 18, .inl (nF (P.2.2.1 23)))), (q 25, .inl (cI, 400, .inl (nF (P.2.2.1 25)))), (q 26, .inl (cI, 401, .inl (nF (P.2.2.1 26)))), (q 28, .inl (cI, 700, .inl (nF (P.2.2.1 28)))), (q 29, .inl (cI, 700, .inl (oF (P.2.2.2.1 29)))), (q 30, .inl (cI, 700, .inl (nF (P.2.2.1 30)))), (q 31, .inl (cI, 700, .inl (nF (P.2.2.1 31)))), (q 32, .inl (cI, 700, .inl (nF (P.2.2.1 32)))), (q 33, .inl (cI, 700, .inl (oF (P.2.2.2.1 33)))), (q 34, .inl (cI, 700, .inl (nF (P.2.2.1 34)))), (q 35, .inl (cI, 700, .inl (nF (P.2.2.1 35)))), (q 36, .inl (cI, 18, .inl (nF (P.2.2.1 36)))), (q 38, .inl (cI, 700, .inl (nF (P.2.2.1 38))))]) (va_runV (As := [.int (nI ((P.2.2.1 38) pp)), .int (nI t)]) (rest := []) ⟨hx, hb, hml, hown, hts⟩ (c_Model_like l dC dI cB cI cL cZ cC cO ft (P.2.2.1 8) (P.2.2.1 9) (P.2.2.1 38 pp) t _ (ha pp) ht (h4 _) (h4 _)) (cwV 2 hts (good_V k_1210 k_1212 s_Model_like k_19 k_1213) rfl rfl rfl (by decide +kernel) ⟨Nat.le_of_ble_eq_true rfl, Nat.le_of_ble_eq_true rfl⟩) (wc_preV (k0 := 0) (ci := 13) (r := (R_Model, F_Model, 71)) hK hP hD hS hA hF [0, 1, 3, 4] (by decide) rfl rfl rfl) rfl rfl hl.1 rfl (lv_room (Nat.le_of_ble_eq_true rfl)) d_Model_innerOf_27 ⟨Nat.le_of_ble_eq_true rfl, Nat.le_of_ble_eq_true rfl⟩) hP hD hS hA [0, 1, 3, 4] [2, 5, 6, 7, 8, 9, 10, 11, 12, 13, 14, 15, 16, 17, 18, 19, 20, 21, 22, 23, 24] rfl rfl (by decide) (by decide) (fun r_3 u H locs w_2 hP hD hS => ?_)
      have hP : va_P (dC, dI) cl [(q 7, .inl (cI, 1002, .inl (nF (P.2.2.1 7)))), (q 10, .inl (cI, 1002, .inl tv)), (q 16, .inl (cI, 17, .inl (nF (P.2.2.1 16)))), (q 17, .inl (cI, 18, .inl (nF (P.2.2.1 17)))), (q 19, .inl (cZ, 200, .inl (bF (P.2.2.2.2 19)))), (q 20, .inl (cI, 200, .inl (nF (P.2.2.1 20)))), (q 21, .inl (cI, 200, .inl (nF (P.2.2.1 21)))), (q 22, .inl (cI, 200, .inl (oF (P.2.2.2.1 22)))), (q 23, .inl (cI, 18, .inl (nF (P.2.2.1 23)))), (q 25, .inl (cI, 400, .inl (nF (P.2.2.1 25)))), (q 26, .inl (cI, 401, .inl (nF (P.2.2.1 26)))), (q 28, .inl (cI, 700, .inl (nF (P.2.2.1 28)))), (q 29, .inl (cI, 700, .inl (oF (P.2.2.2.1 29)))), (q 30, .inl (cI, 700, .inl (nF (P.2.2.1 30)))), (q 31, .inl (cI, 700, .inl (nF (P.2.2.1 31)))), (q 32, .inl (cI, 700, .inl (nF (P.2.2.1 32)))), (q 33, .inl (cI, 700, .inl (oF (P.2.2.2.1 33)))), (q 34, .inl (cI, 700, .inl (nF (P.2.2.1 34)))), (q 35, .inl (cI, 700, .inl (nF (P.2.2.1 35)))), (q 36, .inl (cI, 18, .inl (nF (P.2.2.1 36)))), (q 38, .inl (cI, 700, .inl (nF (P.2.2.1 38)))), (q 100, .inr (13, [f 0, .ref (q 1), f 2, .int (nI (P.1 3)), f 4, .int (nI (P.1 5)), .int (nI (P.1 6)), .ref (q 7), .ref (q 8), .ref (q 9), .ref (q 10), .int (nI (P.1 11)), .int (nI (P.1 12)), .int (nI (P.1 13)), .int (nI (P.1 14)), .int (nI (P.1 15)), .ref (q 16), .ref (q 17), .int (nI (P.1 18)), .ref (q 19), .ref (q 20), .ref (q 21), .ref (q 22), .ref (q 23), .int (nI (P.1 24)), .ref (q 25), .ref (q 26), .int (nI (P.1 27)), .ref (q 28), .ref (q 29), .ref (q 30), .ref (q 31), .ref (q 32), .ref (q 33), .ref (q 34), .ref (q 35), .ref (q 36), .int (nI (P.1 37)), .ref (q 38), f 39, f 40, .int (oI (P.2.1 41)), .int (nI (P.1 42)), .int (nI (P.1 43)), f 44, f 45, f 46, f 47, f 48, f 49, f 50, f 51, f 52, f 53, f 54, f 55, f 56, f 57, f 58, f 59, f 60, f 61, f 62, f 63, f 64, f 65, f 66, f 67, f 68, f 69, f 70])), (q 1, .inl (cI, 2000, .inl ft)), (q 8, .inl (cI, 1002, .inl (nF (P.2.2.1 8)))), (q 9, .inl (cI, 1002, .inl (nF (P.2.2.1 9))))] H := hP
      have hD : va_D A [(q 7, .inl (cI, 1002, .inl (nF (P.2.2.1 7)))), (q 10, .inl (cI, 1002, .inl tv)), (q 16, .inl (cI, 17, .inl (nF (P.2.2.1 16)))), (q 17, .inl (cI, 18, .inl (nF (P.2.2.1 17)))), (q 19, .inl (cZ, 200, .inl (bF (P.2.2.2.2 19)))), (q 20, .inl (cI, 200, .inl (nF (P.2.2.1 20)))), (q 21, .inl (cI, 200, .inl (nF (P.2.2.1 21)))), (q 22, .inl (cI, 200, .inl (oF (P.2.2.2.1 22)))), (q 23, .inl (cI, 18, .inl (nF (P.2.2.1 23)))), (q 25, .inl (cI, 400, .inl (nF (P.2.2.1 25)))), (q 26, .inl (cI, 401, .inl (nF (P.2.2.1 26)))), (q 28, .inl (cI, 700, .inl (nF (P.2.2.1 28)))), (q 29, .inl (cI, 700, .inl (oF (P.2.2.2.1 29)))), (q 30, .inl (cI, 700, .inl (nF (P.2.2.1 30)))), (q 31, .inl (cI, 700, .inl (nF (P.2.2.1 31)))), (q 32, .inl (cI, 700, .inl (nF (P.2.2.1 32)))), (q 33, .inl (cI, 700, .inl (oF (P.2.2.2.1 33)))), (q 34, .inl (cI, 700, .inl (nF (P.2.2.1 34)))), (q 35, .inl (cI, 700, .inl (nF (P.2.2.1 35)))), (q 36, .inl (cI, 18, .inl (nF (P.2.2.1 36)))), (q 38, .inl (cI, 700, .inl (nF (P.2.2.1 38)))), (q 100, .inr (13, [f 0, .ref (q 1), f 2, .int (nI (P.1 3)), f 4, .int (nI (P.1 5)), .int (nI (P.1 6)), .ref (q 7), .ref (q 8), .ref (q 9), .ref (q 10), .int (nI (P.1 11)), .int (nI (P.1 12)), .int (nI (P.1 13)), .int (nI (P.1 14)), .int (nI (P.1 15)), .ref (q 16), .ref (q 17), .int (nI (P.1 18)), .ref (q 19), .ref (q 20), .ref (q 21), .ref (q 22), .ref (q 23), .int (nI (P.1 24)), .ref (q 25), .ref (q 26), .int (nI (P.1 27)), .ref (q 28), .ref (q 29), .ref (q 30), .ref (q 31), .ref (q 32), .ref (q 33), .ref (q 34), .ref (q 35), .ref (q 36), .int (nI (P.1 37)), .ref (q 38), f 39, f 40, .int (oI (P.2.1 41)), .int (nI (P.1 42)), .int (nI (P.1 43)), f 44, f 45, f 46, f 47, f 48, f 49, f 50, f 51, f 52, f 53, f 54, f 55, f 56, f 57, f 58, f 59, f 60, f 61, f 62, f 63, f 64, f 65, f 66, f 67, f 68, f 69, f 70])), (q 1, .inl (cI, 2000, .inl ft)), (q 8, .inl (cI, 1002, .inl (nF (P.2.2.1 8)))), (q 9, .inl (cI, 1002, .inl (nF (P.2.2.1 9))))] := hD
      subst w_2
      refine nv_bif_eq (tgt := 35) hx hb d_Model_innerOf_30 (by decide) (fun c_4 => ?_) (fun c_4 => ?_)
      · refine lv_iinc (v := nI (pp + 1)) (lv' := [(3, .int (nI (pp + 1))), (0, .ref (q 100)), (1, .int (nI ch)), (2, .int (nI t))]) hx hb d_Model_innerOf_35 hl (k := 0) rfl (nI_1 _) (by decide) rfl (fun ls hl => ?_)
        refine lv_goto (tgt := 7) hx hb d_Model_innerOf_38 (by decide) ?_
        exact ih (pp + 1) H locs ls (by omega) (by omega) (by rw [← hr, m_find_u _ _ _ _ _ _ pp, if_pos (by omega), if_neg (by rw [c_4]; decide)]) (hP.sub [21, 22, 0, 23, 24, 1, 2, 3, 4, 5, 6, 7, 8, 9, 10, 11, 12, 13, 14, 15, 16, 17, 18, 19, 20] rfl) (hD.sub [21, 22, 0, 23, 24, 1, 2, 3, 4, 5, 6, 7, 8, 9, 10, 11, 12, 13, 14, 15, 16, 17, 18, 19, 20] (by decide) rfl) hS (lv_sub hl [0, 1, 2, 3] rfl)
      · refine lv_iload_n hx hb d_Model_innerOf_33 rfl (lv_at hl 0 rfl) ?_
        have hri : some pp = r := by rw [← hr, m_find_u, if_pos (by omega), if_pos c_4]
        subst hri
        exact kx H locs ls (hP.sub [21, 22, 0, 23, 24, 1, 2, 3, 4, 5, 6, 7, 8, 9, 10, 11, 12, 13, 14, 15, 16, 17, 18, 19, 20] rfl) (hD.sub [21, 22, 0, 23, 24, 1, 2, 3, 4, 5, 6, 7, 8, 9, 10, 11, 12, 13, 14, 15, 16, 17, 18, 19, 20] (by decide) rfl) hS (lv_sub hl [1, 2, 3] rfl)
set_option maxHeartbeats 4000000 in
set_option maxRecDepth 100000 in
/-- innerOf -/
theorem c_Model_innerOf (l : Launch) (dC : Nat → ClassId) (dI : Nat → Nat → Nat) (cB cI cL cZ cC cO : ClassId) (q : Nat → Nat) (f : Nat → Value) (P : PS) (ft tv : Nat → Int32) (ch t : Nat) (sz : Nat) (hc : ch + 1 < 18) (ht : t < 1002) (h4 : ∀ t, P.2.2.1 8 t + P.2.2.1 9 t ≤ 2000) (ha : ∀ j, P.2.2.1 38 j < 1002) (hf : ∀ j, P.2.2.1 36 j ≤ 700) : Met l y_Model_innerOf w_Model_innerOf ({ frames := 1, cells := 0, slots := 0, locals := 30 }) (va_Pc [.ref (q 100), .int (nI ch), .int (nI t)] (wB (dC, dI) cl [(cB, .byte), (cI, .int), (cL, .long), (cZ, .boolean), (cC, .char), (cO, .object "java/lang/Object")] sz (PW cI cZ q f P ft tv))) (va_Qi (fun (r : Int32) (u : Unit) => r = oI (m_find ft (P.2.2.1 8) (P.2.2.1 9) (P.2.2.1 38) t (P.2.2.1 36 (ch + 1) - P.2.2.1 36 ch) (P.2.2.1 36 ch))) (fun _ t => wA (dC, dI) cl [(cB, .byte), (cI, .int), (cL, .long), (cZ, .boolean), (cC, .char), (cO, .object "java/lang/Object")] (va_A (PW cI cZ q f P ft tv) sz) (PW cI cZ q f P ft tv) t) (va_A (PW cI cZ q f P ft tv) sz)) 0 0 (va_A (PW cI cZ q f P ft tv) sz) := by
  refine Met.ofW (cc := b_Model_innerOf) (maxL := 4) (ret := (some ClassFile.FieldType.int)) (by decide) rfl ?_
  intro p e s m args below meth c s₁ B hml hv
  obtain ⟨rfl, hsz, hP, hK, hD0, hF⟩ := hv
  have hx := B.exec
  have hb := B.bytes
  have hr := B.returns
  have hts := atoms_spec (ws := w_Model_innerOf) B.pre
  have hts : ∀ w ∈ tb, w.before _ s = true := fun w h => hts w (List.mem_cons_of_mem _ h)
  have hown : s.vm.findClass R_Model = some m.cls := findClass_of_methodNamed B.named
  have hlocks := B.notSynchronized
  subst hsz
  have hD := hD0.self (sz := s.heap.size)
  generalize hAe : va_A (PW cI cZ q f P ft tv) s.heap.size = A at hD hF ⊢
  have hA : ∀ q : Nat, s.heap.size ≤ q → A q := fun q h => by rw [← hAe]; exact Or.inr h
  have hS : va_S A s.heap s.heap [] := va_S.rf
  have hP : va_P (dC, dI) cl (PW cI cZ q f P ft tv) s.heap := hP
  have hl := lv_entry ([.ref (q 100), .int (nI ch), .int (nI t)]) (n := 4) (Nat.le_of_ble_eq_true rfl)
  rw [lg_entry_eq]
  generalize (lg_sl ([.ref (q 100), .int (nI ch), .int (nI t)]) ++ List.replicate (4 - (lg_sl ([.ref (q 100), .int (nI ch), .int (nI t)])).length) Slot.unset).toArray = ls at hl ⊢
  have hl : lv_has ls 4 [(0, .ref (q 100)), (1, .int (nI ch)), (2, .int (nI t))] := hl
  refine lv_aload_n hx hb d_Model_innerOf_0 rfl (lv_at hl 0 rfl) ?_
  refine va_get (D := (dC, dI)) (ci := 13) (v := .ref (q 36)) (C := R_Model) (T := F_Model) (N := 71) hx hb hts i_Model hown hK hP 0 rfl rfl 36 (by decide) (hts _ k_910) (fun _ h9 => h9) rfl d_Model_innerOf_1 ?_
  refine lv_iload_n hx hb d_Model_innerOf_4 rfl (lv_at hl 1 rfl) ?_
  refine nv_iald hx hb hK hP 23 1 rfl rfl (by omega) (by decide) d_Model_innerOf_5 ?_
  refine lv_istore_n (lv' := [(3, .int (nI ((P.2.2.1 36) ch))), (0, .ref (q 100)), (1, .int (nI ch)), (2, .int (nI t))]) hx hb d_Model_innerOf_6 rfl hl (by decide) rfl (fun ls hl => ?_)
  refine lp_Model_innerOf (r := m_find ft (P.2.2.1 8) (P.2.2.1 9) (P.2.2.1 38) t (P.2.2.1 36 (ch + 1) - P.2.2.1 36 ch) (P.2.2.1 36 ch)) hc ht h4 ha hf (hf _) hx hb hml hown hts hA hF hK (fun H locs ls hP hD hS hl => ?_) (fun H locs ls hP hD hS hl => ?_) (700 + 1) (P.2.2.1 36 ch) _ _ ls (by omega) (hf _) rfl hP hD hS (lv_sub hl [0, 1, 2, 3] rfl)
  · exact wr_i hx hb hr hlocks () rfl hK hP hD hS d_Model_innerOf_34
  · exact wr_i hx hb hr hlocks () rfl hK hP hD hS d_Model_innerOf_42
