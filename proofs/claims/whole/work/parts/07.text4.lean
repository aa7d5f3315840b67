def tx_val (b : Nat → Int32) : Nat → Nat → Int32 → Int32
  | 0, _, v => v
  | k + 1, i, v => tx_val b k (i + 1) (nI 10 * v + b i - nI 48)
theorem tx_val_u (b : Nat → Int32) (j i : Nat) (v : Int32) : tx_val b (j - i) i v = if i < j then tx_val b (j - (i + 1)) (i + 1) (nI 10 * v + b i - nI 48) else v := by
  by_cases h : i < j
  · rw [if_pos h, show j - i = (j - (i + 1)) + 1 by omega]; rfl
  · rw [if_neg h, show j - i = 0 by omega]; rfl
def tx_numok (b : Nat → Int32) (i j : Nat) : Bool := decide (j - i ≤ 2) && tx_digit (b (j - 1))
def tx_numk (b : Nat → Int32) (i j : Nat) : Nat := if tx_numok b i j = true then 4 else 1
def tx_numf (b : Nat → Int32) (i j t : Nat) (fn : Nat → Int32) : Nat → Int32 := if tx_numok b i j = true then upd fn t (tx_val b (j - i) i (nI 0)) else fn
theorem d_Text_scanNumber_0 : decode b_Text_scanNumber 0 = .ok (.iload_n 3, 1) := by decide +kernel
theorem d_Text_scanNumber_1 : decode b_Text_scanNumber 1 = .ok (.iload_n 2, 1) := by decide +kernel
theorem d_Text_scanNumber_2 : decode b_Text_scanNumber 2 = .ok (.isub, 1) := by decide +kernel
theorem d_Text_scanNumber_3 : decode b_Text_scanNumber 3 = .ok (.iconst 2, 1) := by decide +kernel
theorem d_Text_scanNumber_4 : decode b_Text_scanNumber 4 = .ok (.if_icmp .gt 17, 3) := by decide +kernel
theorem d_Text_scanNumber_7 : decode b_Text_scanNumber 7 = .ok (.aload_n 0, 1) := by decide +kernel
theorem d_Text_scanNumber_8 : decode b_Text_scanNumber 8 = .ok (.getfield 9, 3) := by decide +kernel
theorem d_Text_scanNumber_11 : decode b_Text_scanNumber 11 = .ok (.iload_n 3, 1) := by decide +kernel
theorem d_Text_scanNumber_12 : decode b_Text_scanNumber 12 = .ok (.iconst 1, 1) := by decide +kernel
theorem d_Text_scanNumber_13 : decode b_Text_scanNumber 13 = .ok (.isub, 1) := by decide +kernel
theorem d_Text_scanNumber_14 : decode b_Text_scanNumber 14 = .ok (.baload, 1) := by decide +kernel
theorem d_Text_scanNumber_15 : decode b_Text_scanNumber 15 = .ok (.invokestatic 55, 3) := by decide +kernel
theorem d_Text_scanNumber_18 : decode b_Text_scanNumber 18 = .ok (.ifCond .ne 5, 3) := by decide +kernel
theorem d_Text_scanNumber_21 : decode b_Text_scanNumber 21 = .ok (.iconst 1, 1) := by decide +kernel
theorem d_Text_scanNumber_22 : decode b_Text_scanNumber 22 = .ok (.ireturn, 1) := by decide +kernel
theorem d_Text_scanNumber_23 : decode b_Text_scanNumber 23 = .ok (.iconst 0, 1) := by decide +kernel
theorem d_Text_scanNumber_24 : decode b_Text_scanNumber 24 = .ok (.istore 4, 2) := by decide +kernel
theorem d_Text_scanNumber_26 : decode b_Text_scanNumber 26 = .ok (.iload_n 2, 1) := by decide +kernel
theorem d_Text_scanNumber_27 : decode b_Text_scanNumber 27 = .ok (.istore 5, 2) := by decide +kernel
theorem d_Text_scanNumber_29 : decode b_Text_scanNumber 29 = .ok (.iload 5, 2) := by decide +kernel
theorem d_Text_scanNumber_31 : decode b_Text_scanNumber 31 = .ok (.iload_n 3, 1) := by decide +kernel
theorem d_Text_scanNumber_32 : decode b_Text_scanNumber 32 = .ok (.if_icmp .ge 27, 3) := by decide +kernel
theorem d_Text_scanNumber_35 : decode b_Text_scanNumber 35 = .ok (.bipush 10, 2) := by decide +kernel
theorem d_Text_scanNumber_37 : decode b_Text_scanNumber 37 = .ok (.iload 4, 2) := by decide +kernel
theorem d_Text_scanNumber_39 : decode b_Text_scanNumber 39 = .ok (.imul, 1) := by decide +kernel
theorem d_Text_scanNumber_40 : decode b_Text_scanNumber 40 = .ok (.aload_n 0, 1) := by decide +kernel
theorem d_Text_scanNumber_41 : decode b_Text_scanNumber 41 = .ok (.getfield 9, 3) := by decide +kernel
theorem d_Text_scanNumber_44 : decode b_Text_scanNumber 44 = .ok (.iload 5, 2) := by decide +kernel
theorem d_Text_scanNumber_46 : decode b_Text_scanNumber 46 = .ok (.baload, 1) := by decide +kernel
theorem d_Text_scanNumber_47 : decode b_Text_scanNumber 47 = .ok (.iadd, 1) := by decide +kernel
theorem d_Text_scanNumber_48 : decode b_Text_scanNumber 48 = .ok (.bipush 48, 2) := by decide +kernel
theorem d_Text_scanNumber_50 : decode b_Text_scanNumber 50 = .ok (.isub, 1) := by decide +kernel
theorem d_Text_scanNumber_51 : decode b_Text_scanNumber 51 = .ok (.istore 4, 2) := by decide +kernel
theorem d_Text_scanNumber_53 : decode b_Text_scanNumber 53 = .ok (.iinc 5 1, 3) := by decide +kernel
theorem d_Text_scanNumber_56 : decode b_Text_scanNumber 56 = .ok (.goto (-27), 3) := by decide +kernel
theorem d_Text_scanNumber_59 : decode b_Text_scanNumber 59 = .ok (.aload_n 0, 1) := by decide +kernel
theorem d_Text_scanNumber_60 : decode b_Text_scanNumber 60 = .ok (.getfield 24, 3) := by decide +kernel
theorem d_Text_scanNumber_63 : decode b_Text_scanNumber 63 = .ok (.iload_n 1, 1) := by decide +kernel
theorem d_Text_scanNumber_64 : decode b_Text_scanNumber 64 = .ok (.iload 4, 2) := by decide +kernel
theorem d_Text_scanNumber_66 : decode b_Text_scanNumber 66 = .ok (.iastore, 1) := by decide +kernel
theorem d_Text_scanNumber_67 : decode b_Text_scanNumber 67 = .ok (.iconst 4, 1) := by decide +kernel
theorem d_Text_scanNumber_68 : decode b_Text_scanNumber 68 = .ok (.ireturn, 1) := by decide +kernel
set_option maxHeartbeats 4000000 in
set_option maxRecDepth 100000 in
theorem lp_Text_scanNumber {p : Program} {l : Launch} {e : Env} {s : State} {m : MethodId} {args : Array Value} {below : List Frame} {meth : Method} {c : Code} {Q : State → Prop} {A : Nat → Prop} {dC : Nat → ClassId} {dI : Nat → Nat → Nat} {cB cI cL cZ cC cO : ClassId} {qt qb qk qp qn qh ql : Nat} {fb fn : Nat → Int32} {n t i j : Nat} {zF : Int32} (hn : n ≤ 2000) (hj : j ≤ n) (hx : p.tables.exec = Jvm.exec) (hb : c.code = b_Text_scanNumber) (hml : c.maxLocals = 6) (hown : s.vm.findClass R_Text = some m.cls) (hts : ∀ w ∈ tb, w.before args s = true) (hA : ∀ q, s.heap.size ≤ q → A q) (hF : stF A s) (hK : va_K (dC, dI) cl [(cB, .byte), (cI, .int), (cL, .long), (cZ, .boolean), (cC, .char), (cO, .object "java/lang/Object")] s)
    (kx : ∀  (H : Heap) (locs : List Loc) (ls : Array Slot), va_P (dC, dI) cl [(qt, .inr (1, [.ref qb, .int (nI n), .ref qk, .ref qp, .ref qn, .ref qh, .ref ql])), (qb, .inl (cB, 2000, .inl fb)), (qn, .inl (cI, 1001, .inl fn))] H → va_D A [(qt, .inr (1, [.ref qb, .int (nI n), .ref qk, .ref qp, .ref qn, .ref qh, .ref ql])), (qb, .inl (cB, 2000, .inl fb)), (qn, .inl (cI, 1001, .inl fn))] → va_S A s.heap H locs → lv_has ls 6 [(4, .int zF), (0, .ref qt), (1, .int (nI t)), (2, .int (nI i)), (3, .int (nI j))] → W p l e (headSpec w_Text_scanNumber { frames := 1, cells := 0, slots := 0, locals := 20 }).room s m args below meth c H locs 0 0 Q (F0 m 59 ls [])) :
    ∀ (k : Nat) (x : Nat) (z : Int32) (H : Heap) (locs : List Loc) (ls : Array Slot), j < x + k → x ≤ j → tx_val fb (j - x) x z = zF → va_P (dC, dI) cl [(qt, .inr (1, [.ref qb, .int (nI n), .ref qk, .ref qp, .ref qn, .ref qh, .ref ql])), (qb, .inl (cB, 2000, .inl fb)), (qn, .inl (cI, 1001, .inl fn))] H → va_D A [(qt, .inr (1, [.ref qb, .int (nI n), .ref qk, .ref qp, .ref qn, .ref qh, .ref ql])), (qb, .inl (cB, 2000, .inl fb)), (qn, .inl (cI, 1001, .inl fn))] → va_S A s.heap H locs → lv_has ls 6 [(5, .int (nI x)), (4, .int z), (0, .ref qt), (1, .int (nI t)), (2, .int (nI i)), (3, .int (nI j))] → W p l e (headSpec w_Text_scanNumber { frames := 1, cells := 0, slots := 0, locals := 20 }).room s m args below meth c H locs 0 0 Q (F0 m 29 ls []) := by
  intro k
  induction k with
  | zero =>
    intro x z H locs ls hk hi hr hP hD hS hl
    exfalso; omega
  | succ k ih =>
    intro x z H locs ls hk hi hr hP hD hS hl
    refine lv_iload hx hb d_Text_scanNumber_29 (lv_at hl 0 rfl) ?_
    refine lv_iload_n hx hb d_Text_scanNumber_31 rfl (lv_at hl 5 rfl) ?_
    refine nv_icmp_ge (tgt := 59) hx hb (by omega) (by omega) d_Text_scanNumber_32 (by decide) (fun c_1 => ?_) (fun c_1 => ?_)
    · have hz : z = zF := by rw [← hr, tx_val_u, if_neg (by omega)]
      subst hz
      exact kx H locs ls hP hD hS (lv_sub hl [1, 2, 3, 4, 5] rfl)
    · refine lv_bipush (v := nI 10) hx hb d_Text_scanNumber_35 (by decide) ?_
      refine lv_iload hx hb d_Text_scanNumber_37 (lv_at hl 1 rfl) ?_
      refine lv_imul hx hb d_Text_scanNumber_39 ?_
      refine lv_aload_n hx hb d_Text_scanNumber_40 rfl (lv_at hl 2 rfl) ?_
      refine va_get (D := (dC, dI)) (ci := 1) (v := .ref qb) (C := R_Text) (T := F_Text) (N := 7) hx hb hts i_Text hown hK hP 0 rfl rfl 0 (by decide) (hts _ k_37) (fun _ h9 => h9) rfl d_Text_scanNumber_41 ?_
      refine lv_iload hx hb d_Text_scanNumber_44 (lv_at hl 0 rfl) ?_
      refine nv_bald hx hb hK hP 1 0 rfl rfl (by omega) (by decide) d_Text_scanNumber_46 ?_
      refine lv_iadd hx hb d_Text_scanNumber_47 ?_
      refine lv_bipush (v := nI 48) hx hb d_Text_scanNumber_48 (by decide) ?_
      refine lv_isub hx hb d_Text_scanNumber_50 ?_
      refine lv_istore (lv' := [(4, .int ((((nI 10) * z) + (fb x)) - (nI 48))), (5, .int (nI x)), (0, .ref qt), (1, .int (nI t)), (2, .int (nI i)), (3, .int (nI j))]) hx hb d_Text_scanNumber_51 hl (by decide) rfl (fun ls hl => ?_)
      refine lv_iinc (v := nI (x + 1)) (lv' := [(5, .int (nI (x + 1))), (4, .int ((((nI 10) * z) + (fb x)) - (nI 48))), (0, .ref qt), (1, .int (nI t)), (2, .int (nI i)), (3, .int (nI j))]) hx hb d_Text_scanNumber_53 hl (k := 1) rfl (nI_1 _) (by decide) rfl (fun ls hl => ?_)
      refine lv_goto (tgt := 29) hx hb d_Text_scanNumber_56 (by decide) ?_
      exact ih (x + 1) (nI 10 * z + fb x - nI 48) H locs ls (by omega) (by omega) (by rw [← hr, tx_val_u fb j x, if_pos (by omega)]) hP hD hS (lv_sub hl [0, 1, 2, 3, 4, 5] rfl)
set_option maxHeartbeats 4000000 in
set_option maxRecDepth 100000 in
/-- scanNumber(t, i, j) -/
theorem c_Text_scanNumber (l : Launch) (dC : Nat → ClassId) (dI : Nat → Nat → Nat) (cB cI cL cZ cC cO : ClassId) (qt qb qk qp qn qh ql : Nat) (fb fn : Nat → Int32) (n t i j : Nat) (sz : Nat) (hn : n ≤ 2000) (ht : t ≤ 1000) (hi : i < j) (hj : j ≤ n) : Met l y_Text_scanNumber w_Text_scanNumber ({ frames := 1, cells := 0, slots := 0, locals := 20 }) (va_Pc [.ref qt, .int (nI t), .int (nI i), .int (nI j)] (wB (dC, dI) cl [(cB, .byte), (cI, .int), (cL, .long), (cZ, .boolean), (cC, .char), (cO, .object "java/lang/Object")] sz [(qt, .inr (1, [.ref qb, .int (nI n), .ref qk, .ref qp, .ref qn, .ref qh, .ref ql])), (qb, .inl (cB, 2000, .inl fb)), (qn, .inl (cI, 1001, .inl fn))])) (va_Qi (fun (r : Int32) (u : Nat → Int32) => r = nI (tx_numk fb i j) ∧ u = tx_numf fb i j t fn) (fun u t => wA (dC, dI) cl [(cB, .byte), (cI, .int), (cL, .long), (cZ, .boolean), (cC, .char), (cO, .object "java/lang/Object")] (va_A [(qt, .inr (1, [.ref qb, .int (nI n), .ref qk, .ref qp, .ref qn, .ref qh, .ref ql])), (qb, .inl (cB, 2000, .inl fb)), (qn, .inl (cI, 1001, .inl fn))] sz) [(qt, .inr (1, [.ref qb, .int (nI n), .ref qk, .ref qp, .ref qn, .ref qh, .ref ql])), (qb, .inl (cB, 2000, .inl fb)), (qn, .inl (cI, 1001, .inl u))] t) (va_A [(qt, .inr (1, [.ref qb, .int (nI n), .ref qk, .ref qp, .ref qn, .ref qh, .ref ql])), (qb, .inl (cB, 2000, .inl fb)), (qn, .inl (cI, 1001, .inl fn))] sz)) 0 0 (va_A [(qt, .inr (1, [.ref qb, .int (nI n), .ref qk, .ref qp, .ref qn, .ref qh, .ref ql])), (qb, .inl (cB, 2000, .inl fb)), (qn, .inl (cI, 1001, .inl fn))] sz) := by
  refine Met.ofW (cc := b_Text_scanNumber) (maxL := 6) (ret := (some ClassFile.FieldType.int)) (by decide) rfl ?_
  intro p e s m args below meth c s₁ B hml hv
  obtain ⟨rfl, hsz, hP, hK, hD0, hF⟩ := hv
  have hx := B.exec
  have hb := B.bytes
  have hr := B.returns
  have hts := atoms_spec (ws := w_Text_scanNumber) B.pre
  have hts : ∀ w ∈ tb, w.before _ s = true := fun w h => hts w (List.mem_cons_of_mem _ h)
  have hown : s.vm.findClass R_Text = some m.cls := findClass_of_methodNamed B.named
  have hlocks := B.notSynchronized
  subst hsz
  have hD := hD0.self (sz := s.heap.size)
  generalize hAe : va_A [(qt, .inr (1, [.ref qb, .int (nI n), .ref qk, .ref qp, .ref qn, .ref qh, .ref ql])), (qb, .inl (cB, 2000, .inl fb)), (qn, .inl (cI, 1001, .inl fn))] s.heap.size = A at hD hF ⊢
  have hA : ∀ q : Nat, s.heap.size ≤ q → A q := fun q h => by rw [← hAe]; exact Or.inr h
  have hS : va_S A s.heap s.heap [] := va_S.rf
  have hP : va_P (dC, dI) cl [(qt, .inr (1, [.ref qb, .int (nI n), .ref qk, .ref qp, .ref qn, .ref qh, .ref ql])), (qb, .inl (cB, 2000, .inl fb)), (qn, .inl (cI, 1001, .inl fn))] s.heap := hP
  have hl := lv_entry ([.ref qt, .int (nI t), .int (nI i), .int (nI j)]) (n := 6) (Nat.le_of_ble_eq_true rfl)
  rw [lg_entry_eq]
  generalize (lg_sl ([.ref qt, .int (nI t), .int (nI i), .int (nI j)]) ++ List.replicate (6 - (lg_sl ([.ref qt, .int (nI t), .int (nI i), .int (nI j)])).length) Slot.unset).toArray = ls at hl ⊢
  have hl : lv_has ls 6 [(0, .ref qt), (1, .int (nI t)), (2, .int (nI i)), (3, .int (nI j))] := hl
  refine lv_iload_n hx hb d_Text_scanNumber_0 rfl (lv_at hl 3 rfl) ?_
  refine lv_iload_n hx hb d_Text_scanNumber_1 rfl (lv_at hl 2 rfl) ?_
  refine nv_isub hx hb (by omega) d_Text_scanNumber_2 ?_
  refine lv_iconst (v := nI 2) hx hb d_Text_scanNumber_3 (by decide) ?_
  refine nv_icmp_gt (tgt := 21) hx hb (by omega) (by omega) d_Text_scanNumber_4 (by decide) (fun c_1 => ?_) (fun c_1 => ?_)
  · refine lv_iconst (v := nI 1) hx hb d_Text_scanNumber_21 (by decide) ?_
    have hok : tx_numok fb i j = false := by first | (simp [tx_numok, c_1]; done) | (simp [tx_numok]; omega)
    exact wr_i hx hb hr hlocks fn ⟨by simp [tx_numk, hok], by simp [tx_numf, hok]⟩ hK hP hD hS d_Text_scanNumber_22
  · refine lv_aload_n hx hb d_Text_scanNumber_7 rfl (lv_at hl 0 rfl) ?_
    refine va_get (D := (dC, dI)) (ci := 1) (v := .ref qb) (C := R_Text) (T := F_Text) (N := 7) hx hb hts i_Text hown hK hP 0 rfl rfl 0 (by decide) (hts _ k_37) (fun _ h9 => h9) rfl d_Text_scanNumber_8 ?_
    refine lv_iload_n hx hb d_Text_scanNumber_11 rfl (lv_at hl 3 rfl) ?_
    refine lv_iconst (v := nI 1) hx hb d_Text_scanNumber_12 (by decide) ?_
    refine nv_isub hx hb (by omega) d_Text_scanNumber_13 ?_
    refine nv_bald hx hb hK hP 1 0 rfl rfl (by omega) (by decide) d_Text_scanNumber_14 ?_
    refine wc_i (wc := []) (wr := [(qt, .inr (1, [.ref qb, .int (nI n), .ref qk, .ref qp, .ref qn, .ref qh, .ref ql])), (qb, .inl (cB, 2000, .inl fb)), (qn, .inl (cI, 1001, .inl fn))]) (va_runS (As := [.int (fb (j - 1))]) (rest := []) ⟨hx, hb, hml, hown, hts⟩ (c_Text_isDigit l dC dI cB cI cL cZ cC cO (fb (j - 1)) _ ) (va_cwS 1 hts (good_S k_498 k_499 k_2 k_500) rfl rfl rfl (by decide +kernel) ⟨Nat.le_of_ble_eq_true rfl, Nat.le_of_ble_eq_true rfl⟩) (wc_preS hK hP hD hS hA hF [] (by decide) rfl) rfl rfl hl.1 rfl (lv_room (Nat.le_of_ble_eq_true rfl)) d_Text_scanNumber_15 ⟨Nat.le_of_ble_eq_true rfl, Nat.le_of_ble_eq_true rfl⟩) hP hD hS hA [] [0, 1, 2] rfl rfl (by decide) (by decide) (fun r_3 u H locs w_2 hP hD hS => ?_)
    have hP : va_P (dC, dI) cl [(qt, .inr (1, [.ref qb, .int (nI n), .ref qk, .ref qp, .ref qn, .ref qh, .ref ql])), (qb, .inl (cB, 2000, .inl fb)), (qn, .inl (cI, 1001, .inl fn))] H := hP
    have hD : va_D A [(qt, .inr (1, [.ref qb, .int (nI n), .ref qk, .ref qp, .ref qn, .ref qh, .ref ql])), (qb, .inl (cB, 2000, .inl fb)), (qn, .inl (cI, 1001, .inl fn))] := hD
    subst w_2
    refine nv_bif_ne (tgt := 23) hx hb d_Text_scanNumber_18 (by decide) (fun c_4 => ?_) (fun c_4 => ?_)
    · have hok : tx_numok fb i j = true := by simp [tx_numok, c_1, c_4]
      refine lv_iconst (v := nI 0) hx hb d_Text_scanNumber_23 (by decide) ?_
      refine lv_istore (lv' := [(4, .int (nI 0)), (0, .ref qt), (1, .int (nI t)), (2, .int (nI i)), (3, .int (nI j))]) hx hb d_Text_scanNumber_24 hl (by decide) rfl (fun ls hl => ?_)
      refine lv_iload_n hx hb d_Text_scanNumber_26 rfl (lv_at hl 3 rfl) ?_
      refine lv_istore (lv' := [(5, .int (nI i)), (4, .int (nI 0)), (0, .ref qt), (1, .int (nI t)), (2, .int (nI i)), (3, .int (nI j))]) hx hb d_Text_scanNumber_27 hl (by decide) rfl (fun ls hl => ?_)
      refine lp_Text_scanNumber (zF := tx_val fb (j - i) i (nI 0)) hn hj hx hb hml hown hts hA hF hK (fun H locs ls hP hD hS hl => ?_) (j + 1 - i) i (nI 0) _ _ ls (by omega) (by omega) rfl hP hD hS (lv_sub hl [0, 1, 2, 3, 4, 5] rfl)
      refine lv_aload_n hx hb d_Text_scanNumber_59 rfl (lv_at hl 1 rfl) ?_
      refine va_get (D := (dC, dI)) (ci := 1) (v := .ref qn) (C := R_Text) (T := F_Text) (N := 7) hx hb hts i_Text hown hK hP 0 rfl rfl 4 (by decide) (hts _ k_44) (fun _ h9 => h9) rfl d_Text_scanNumber_60 ?_
      refine lv_iload_n hx hb d_Text_scanNumber_63 rfl (lv_at hl 2 rfl) ?_
      refine lv_iload hx hb d_Text_scanNumber_64 (lv_at hl 0 rfl) ?_
      refine nv_iast hx hb hK hP hD hS 2 1 rfl rfl (by omega) (by decide) d_Text_scanNumber_66 (fun H locs hP hD hS => ?_)
      have hP : va_P (dC, dI) cl [(qt, .inr (1, [.ref qb, .int (nI n), .ref qk, .ref qp, .ref qn, .ref qh, .ref ql])), (qb, .inl (cB, 2000, .inl fb)), (qn, .inl (cI, 1001, .inl (upd fn t (tx_val fb (j - i) i (nI 0)))))] H := hP
      have hD : va_D A [(qt, .inr (1, [.ref qb, .int (nI n), .ref qk, .ref qp, .ref qn, .ref qh, .ref ql])), (qb, .inl (cB, 2000, .inl fb)), (qn, .inl (cI, 1001, .inl (upd fn t (tx_val fb (j - i) i (nI 0)))))] := hD
      refine lv_iconst (v := nI 4) hx hb d_Text_scanNumber_67 (by decide) ?_
      exact wr_i hx hb hr hlocks _ ⟨by simp [tx_numk, hok], by simp [tx_numf, hok]⟩ hK hP hD hS d_Text_scanNumber_68
    · refine lv_iconst (v := nI 1) hx hb d_Text_scanNumber_21 (by decide) ?_
      have hok : tx_numok fb i j = false := by first | (simp [tx_numok, c_1, c_4]; done) | (simp [tx_numok]; omega)
      exact wr_i hx hb hr hlocks fn ⟨by simp [tx_numk, hok], by simp [tx_numf, hok]⟩ hK hP hD hS d_Text_scanNumber_22
def tx_hw (b : Nat → Int32) (i : Nat) : Nat → Nat → Int64 → Int64 → Int64 × Int64
  | 0, _, f, r => (f, r)
  | k + 1, x, f, r => if x - i < 8 then tx_hw b i k (x + 1) (f <<< ((nI 8).toInt64 &&& 63) ||| (b x).toInt64) r else tx_hw b i k (x + 1) f (r <<< ((nI 8).toInt64 &&& 63) ||| (b x).toInt64)
theorem tx_hw_u (b : Nat → Int32) (i j x : Nat) (f r : Int64) : tx_hw b i (j - x) x f r = if x < j then (if x - i < 8 then tx_hw b i (j - (x + 1)) (x + 1) (f <<< ((nI 8).toInt64 &&& 63) ||| (b x).toInt64) r else tx_hw b i (j - (x + 1)) (x + 1) f (r <<< ((nI 8).toInt64 &&& 63) ||| (b x).toInt64)) else (f, r) := by
  by_cases h : x < j
  · rw [if_pos h, show j - x = (j - (x + 1)) + 1 by omega]; rfl
  · rw [if_neg h, show j - x = 0 by omega]; rfl
def tx_wok (b : Nat → Int32) (i j : Nat) : Bool := decide (j - i ≤ 16) && tx_letter (b i)
def tx_word (b : Nat → Int32) (i j : Nat) : Int64 × Int64 := tx_hw b i (j - i) i 0 0
def tx_wk (b : Nat → Int32) (i j : Nat) : Nat := if tx_wok b i j = true then tx_kind (tx_word b i j).1 (tx_word b i j).2 6 0 else 1
def tx_wh (b : Nat → Int32) (i j t : Nat) (fh : Nat → Int64) : Nat → Int64 := if tx_wok b i j = true then vp_updL fh t (tx_word b i j).1 else fh
def tx_wl (b : Nat → Int32) (i j t : Nat) (fl : Nat → Int64) : Nat → Int64 := if tx_wok b i j = true then vp_updL fl t (tx_word b i j).2 else fl
theorem d_Text_scanWord_0 : decode b_Text_scanWord 0 = .ok (.iload_n 3, 1) := by decide +kernel
theorem d_Text_scanWord_1 : decode b_Text_scanWord 1 = .ok (.iload_n 2, 1) := by decide +kernel
theorem d_Text_scanWord_2 : decode b_Text_scanWord 2 = .ok (.isub, 1) := by decide +kernel
theorem d_Text_scanWord_3 : decode b_Text_scanWord 3 = .ok (.bipush 16, 2) := by decide +kernel
theorem d_Text_scanWord_5 : decode b_Text_scanWord 5 = .ok (.if_icmp .gt 15, 3) := by decide +kernel
theorem d_Text_scanWord_8 : decode b_Text_scanWord 8 = .ok (.aload_n 0, 1) := by decide +kernel
theorem d_Text_scanWord_9 : decode b_Text_scanWord 9 = .ok (.getfield 9, 3) := by decide +kernel
theorem d_Text_scanWord_12 : decode b_Text_scanWord 12 = .ok (.iload_n 2, 1) := by decide +kernel
theorem d_Text_scanWord_13 : decode b_Text_scanWord 13 = .ok (.baload, 1) := by decide +kernel
theorem d_Text_scanWord_14 : decode b_Text_scanWord 14 = .ok (.invokestatic 68, 3) := by decide +kernel
theorem d_Text_scanWord_17 : decode b_Text_scanWord 17 = .ok (.ifCond .ne 5, 3) := by decide +kernel
theorem d_Text_scanWord_20 : decode b_Text_scanWord 20 = .ok (.iconst 1, 1) := by decide +kernel
theorem d_Text_scanWord_21 : decode b_Text_scanWord 21 = .ok (.ireturn, 1) := by decide +kernel
theorem d_Text_scanWord_22 : decode b_Text_scanWord 22 = .ok (.lconst 0, 1) := by decide +kernel
theorem d_Text_scanWord_23 : decode b_Text_scanWord 23 = .ok (.lstore 4, 2) := by decide +kernel
theorem d_Text_scanWord_25 : decode b_Text_scanWord 25 = .ok (.lconst 0, 1) := by decide +kernel
theorem d_Text_scanWord_26 : decode b_Text_scanWord 26 = .ok (.lstore 6, 2) := by decide +kernel
theorem d_Text_scanWord_28 : decode b_Text_scanWord 28 = .ok (.iload_n 2, 1) := by decide +kernel
theorem d_Text_scanWord_29 : decode b_Text_scanWord 29 = .ok (.istore 8, 2) := by decide +kernel
theorem d_Text_scanWord_31 : decode b_Text_scanWord 31 = .ok (.iload 8, 2) := by decide +kernel
theorem d_Text_scanWord_33 : decode b_Text_scanWord 33 = .ok (.iload_n 3, 1) := by decide +kernel
theorem d_Text_scanWord_34 : decode b_Text_scanWord 34 = .ok (.if_icmp .ge 53, 3) := by decide +kernel
theorem d_Text_scanWord_37 : decode b_Text_scanWord 37 = .ok (.iload 8, 2) := by decide +kernel
theorem d_Text_scanWord_39 : decode b_Text_scanWord 39 = .ok (.iload_n 2, 1) := by decide +kernel
theorem d_Text_scanWord_40 : decode b_Text_scanWord 40 = .ok (.isub, 1) := by decide +kernel
theorem d_Text_scanWord_41 : decode b_Text_scanWord 41 = .ok (.bipush 8, 2) := by decide +kernel
theorem d_Text_scanWord_43 : decode b_Text_scanWord 43 = .ok (.if_icmp .ge 22, 3) := by decide +kernel
theorem d_Text_scanWord_46 : decode b_Text_scanWord 46 = .ok (.lload 4, 2) := by decide +kernel
theorem d_Text_scanWord_48 : decode b_Text_scanWord 48 = .ok (.bipush 8, 2) := by decide +kernel
theorem d_Text_scanWord_50 : decode b_Text_scanWord 50 = .ok (.lshl, 1) := by decide +kernel
theorem d_Text_scanWord_51 : decode b_Text_scanWord 51 = .ok (.aload_n 0, 1) := by decide +kernel
theorem d_Text_scanWord_52 : decode b_Text_scanWord 52 = .ok (.getfield 9, 3) := by decide +kernel
theorem d_Text_scanWord_55 : decode b_Text_scanWord 55 = .ok (.iload 8, 2) := by decide +kernel
theorem d_Text_scanWord_57 : decode b_Text_scanWord 57 = .ok (.baload, 1) := by decide +kernel
theorem d_Text_scanWord_58 : decode b_Text_scanWord 58 = .ok (.i2l, 1) := by decide +kernel
theorem d_Text_scanWord_59 : decode b_Text_scanWord 59 = .ok (.lor, 1) := by decide +kernel
theorem d_Text_scanWord_60 : decode b_Text_scanWord 60 = .ok (.lstore 4, 2) := by decide +kernel
theorem d_Text_scanWord_62 : decode b_Text_scanWord 62 = .ok (.goto 19, 3) := by decide +kernel
theorem d_Text_scanWord_65 : decode b_Text_scanWord 65 = .ok (.lload 6, 2) := by decide +kernel
theorem d_Text_scanWord_67 : decode b_Text_scanWord 67 = .ok (.bipush 8, 2) := by decide +kernel
theorem d_Text_scanWord_69 : decode b_Text_scanWord 69 = .ok (.lshl, 1) := by decide +kernel
theorem d_Text_scanWord_70 : decode b_Text_scanWord 70 = .ok (.aload_n 0, 1) := by decide +kernel
theorem d_Text_scanWord_71 : decode b_Text_scanWord 71 = .ok (.getfield 9, 3) := by decide +kernel
theorem d_Text_scanWord_74 : decode b_Text_scanWord 74 = .ok (.iload 8, 2) := by decide +kernel
theorem d_Text_scanWord_76 : decode b_Text_scanWord 76 = .ok (.baload, 1) := by decide +kernel
theorem d_Text_scanWord_77 : decode b_Text_scanWord 77 = .ok (.i2l, 1) := by decide +kernel
theorem d_Text_scanWord_78 : decode b_Text_scanWord 78 = .ok (.lor, 1) := by decide +kernel
theorem d_Text_scanWord_79 : decode b_Text_scanWord 79 = .ok (.lstore 6, 2) := by decide +kernel
theorem d_Text_scanWord_81 : decode b_Text_scanWord 81 = .ok (.iinc 8 1, 3) := by decide +kernel
theorem d_Text_scanWord_84 : decode b_Text_scanWord 84 = .ok (.goto (-53), 3) := by decide +kernel
theorem d_Text_scanWord_87 : decode b_Text_scanWord 87 = .ok (.aload_n 0, 1) := by decide +kernel
theorem d_Text_scanWord_88 : decode b_Text_scanWord 88 = .ok (.getfield 27, 3) := by decide +kernel
theorem d_Text_scanWord_91 : decode b_Text_scanWord 91 = .ok (.iload_n 1, 1) := by decide +kernel
theorem d_Text_scanWord_92 : decode b_Text_scanWord 92 = .ok (.lload 4, 2) := by decide +kernel
theorem d_Text_scanWord_94 : decode b_Text_scanWord 94 = .ok (.lastore, 1) := by decide +kernel
theorem d_Text_scanWord_95 : decode b_Text_scanWord 95 = .ok (.aload_n 0, 1) := by decide +kernel
theorem d_Text_scanWord_96 : decode b_Text_scanWord 96 = .ok (.getfield 31, 3) := by decide +kernel
theorem d_Text_scanWord_99 : decode b_Text_scanWord 99 = .ok (.iload_n 1, 1) := by decide +kernel
theorem d_Text_scanWord_100 : decode b_Text_scanWord 100 = .ok (.lload 6, 2) := by decide +kernel
theorem d_Text_scanWord_102 : decode b_Text_scanWord 102 = .ok (.lastore, 1) := by decide +kernel
theorem d_Text_scanWord_103 : decode b_Text_scanWord 103 = .ok (.lload 4, 2) := by decide +kernel
theorem d_Text_scanWord_105 : decode b_Text_scanWord 105 = .ok (.lload 6, 2) := by decide +kernel
theorem d_Text_scanWord_107 : decode b_Text_scanWord 107 = .ok (.invokestatic 71, 3) := by decide +kernel
theorem d_Text_scanWord_110 : decode b_Text_scanWord 110 = .ok (.ireturn, 1) := by decide +kernel
set_option maxHeartbeats 4000000 in
set_option maxRecDepth 100000 in
theorem lp_Text_scanWord {p : Program} {l : Launch} {e : Env} {s : State} {m : MethodId} {args : Array Value} {below : List Frame} {meth : Method} {c : Code} {Q : State → Prop} {A : Nat → Prop} {dC : Nat → ClassId} {dI : Nat → Nat → Nat} {cB cI cL cZ cC cO : ClassId} {qt qb qk qp qn qh ql : Nat} {fb : Nat → Int32} {fh fl : Nat → Int64} {n t i j : Nat} {F : Int64 × Int64} (hn : n ≤ 2000) (hj : j ≤ n) (hx : p.tables.exec = Jvm.exec) (hb : c.code = b_Text_scanWord) (hml : c.maxLocals = 9) (hown : s.vm.findClass R_Text = some m.cls) (hts : ∀ w ∈ tb, w.before args s = true) (hA : ∀ q, s.heap.size ≤ q → A q) (hF : stF A s) (hK : va_K (dC, dI) cl [(cB, .byte), (cI, .int), (cL, .long), (cZ, .boolean), (cC, .char), (cO, .object "java/lang/Object")] s)
    (kx : ∀  (H : Heap) (locs : List Loc) (ls : Array Slot), va_P (dC, dI) cl [(qt, .inr (1, [.ref qb, .int (nI n), .ref qk, .ref qp, .ref qn, .ref qh, .ref ql])), (qb, .inl (cB, 2000, .inl fb)), (qh, .inl (cL, 1001, .inr (.inl fh))), (ql, .inl (cL, 1001, .inr (.inl fl)))] H → va_D A [(qt, .inr (1, [.ref qb, .int (nI n), .ref qk, .ref qp, .ref qn, .ref qh, .ref ql])), (qb, .inl (cB, 2000, .inl fb)), (qh, .inl (cL, 1001, .inr (.inl fh))), (ql, .inl (cL, 1001, .inr (.inl fl)))] → va_S A s.heap H locs → lv_has ls 9 [(6, .long F.2), (4, .long F.1), (0, .ref qt), (1, .int (nI t)), (2, .int (nI i)), (3, .int (nI j))] → W p l e (headSpec w_Text_scanWord { frames := 1, cells := 0, slots := 0, locals := 30 }).room s m args below meth c H locs 0 0 Q (F0 m 87 ls [])) :
    ∀ (k : Nat) (x : Nat) (f r : Int64) (H : Heap) (locs : List Loc) (ls : Array Slot), j < x + k → x ≤ j → i ≤ x → tx_hw fb i (j - x) x f r = F → va_P (dC, dI) cl [(qt, .inr (1, [.ref qb, .int (nI n), .ref qk, .ref qp, .ref qn, .ref qh, .ref ql])), (qb, .inl (cB, 2000, .inl fb)), (qh, .inl (cL, 1001, .inr (.inl fh))), (ql, .inl (cL, 1001, .inr (.inl fl)))] H → va_D A [(qt, .inr (1, [.ref qb, .int (nI n), .ref qk, .ref qp, .ref qn, .ref qh, .ref ql])), (qb, .inl (cB, 2000, .inl fb)), (qh, .inl (cL, 1001, .inr (.inl fh))), (ql, .inl (cL, 1001, .inr (.inl fl)))] → va_S A s.heap H locs → lv_has ls 9 [(8, .int (nI x)), (6, .long r), (4, .long f), (0, .ref qt), (1, .int (nI t)), (2, .int (nI i)), (3, .int (nI j))] → W p l e (headSpec w_Text_scanWord { frames := 1, cells := 0, slots := 0, locals := 30 }).room s m args below meth c H locs 0 0 Q (F0 m 31 ls []) := by
  intro k
  induction k with
  | zero =>
    intro x f r H locs ls hk hi hix hr hP hD hS hl
    exfalso; omega
  | succ k ih =>
    intro x f r H locs ls hk hi hix hr hP hD hS hl
    refine lv_iload hx hb d_Text_scanWord_31 (lv_at hl 0 rfl) ?_
    refine lv_iload_n hx hb d_Text_scanWord_33 rfl (lv_at hl 6 rfl) ?_
    refine nv_icmp_ge (tgt := 87) hx hb (by omega) (by omega) d_Text_scanWord_34 (by decide) (fun c_1 => ?_) (fun c_1 => ?_)
    · have hz : (f, r) = F := by rw [← hr, tx_hw_u, if_neg (by omega)]
      subst hz
      exact kx H locs ls hP hD hS (lv_sub hl [1, 2, 3, 4, 5, 6] rfl)
    · refine lv_iload hx hb d_Text_scanWord_37 (lv_at hl 0 rfl) ?_
      refine lv_iload_n hx hb d_Text_scanWord_39 rfl (lv_at hl 5 rfl) ?_
      refine nv_isub hx hb (by omega) d_Text_scanWord_40 ?_
      refine lv_bipush (v := nI 8) hx hb d_Text_scanWord_41 (by decide) ?_
      refine nv_icmp_ge (tgt := 65) hx hb (by omega) (by omega) d_Text_scanWord_43 (by decide) (fun c_2 => ?_) (fun c_2 => ?_)
      · refine lv_lload hx hb d_Text_scanWord_65 (lv_at hl 1 rfl) ?_
        refine lv_bipush (v := nI 8) hx hb d_Text_scanWord_67 (by decide) ?_
        refine lv_lshl (v := r <<< ((nI 8).toInt64 &&& 63)) hx hb d_Text_scanWord_69 rfl ?_
        refine lv_aload_n hx hb d_Text_scanWord_70 rfl (lv_at hl 3 rfl) ?_
        refine va_get (D := (dC, dI)) (ci := 1) (v := .ref qb) (C := R_Text) (T := F_Text) (N := 7) hx hb hts i_Text hown hK hP 0 rfl rfl 0 (by decide) (hts _ k_37) (fun _ h9 => h9) rfl d_Text_scanWord_71 ?_
        refine lv_iload hx hb d_Text_scanWord_74 (lv_at hl 0 rfl) ?_
        refine nv_bald hx hb hK hP 1 0 rfl rfl (by omega) (by decide) d_Text_scanWord_76 ?_
        refine lv_i2l (v := (fb x).toInt64) hx hb d_Text_scanWord_77 rfl ?_
        refine lv_lor hx hb d_Text_scanWord_78 ?_
        refine lv_lstore (lv' := [(6, .long ((r <<< ((nI 8).toInt64 &&& 63)) ||| ((fb x).toInt64))), (8, .int (nI x)), (4, .long f), (0, .ref qt), (1, .int (nI t)), (2, .int (nI i)), (3, .int (nI j))]) hx hb d_Text_scanWord_79 hl (by decide) rfl (fun ls hl => ?_)
        refine lv_iinc (v := nI (x + 1)) (lv' := [(8, .int (nI (x + 1))), (6, .long ((r <<< ((nI 8).toInt64 &&& 63)) ||| ((fb x).toInt64))), (4, .long f), (0, .ref qt), (1, .int (nI t)), (2, .int (nI i)), (3, .int (nI j))]) hx hb d_Text_scanWord_81 hl (k := 1) rfl (nI_1 _) (by decide) rfl (fun ls hl => ?_)
        refine lv_goto (tgt := 31) hx hb d_Text_scanWord_84 (by decide) ?_
        exact ih (x + 1) (f) ((r <<< ((nI 8).toInt64 &&& 63)) ||| ((fb x).toInt64)) H locs ls (by omega) (by omega) (by omega) (by rw [← hr, tx_hw_u fb i j x, if_pos (by omega)]; first | rw [if_pos (by omega)] | rw [if_neg (by omega)]) hP hD hS (lv_sub hl [0, 1, 2, 3, 4, 5, 6] rfl)
      · refine lv_lload hx hb d_Text_scanWord_46 (lv_at hl 2 rfl) ?_
        refine lv_bipush (v := nI 8) hx hb d_Text_scanWord_48 (by decide) ?_
        refine lv_lshl (v := f <<< ((nI 8).toInt64 &&& 63)) hx hb d_Text_scanWord_50 rfl ?_
        refine lv_aload_n hx hb d_Text_scanWord_51 rfl (lv_at hl 3 rfl) ?_
        refine va_get (D := (dC, dI)) (ci := 1) (v := .ref qb) (C := R_Text) (T := F_Text) (N := 7) hx hb hts i_Text hown hK hP 0 rfl rfl 0 (by decide) (hts _ k_37) (fun _ h9 => h9) rfl d_Text_scanWord_52 ?_
        refine lv_iload hx hb d_Text_scanWord_55 (lv_at hl 0 rfl) ?_
        refine nv_bald hx hb hK hP 1 0 rfl rfl (by omega) (by decide) d_Text_scanWord_57 ?_
        refine lv_i2l (v := (fb x).toInt64) hx hb d_Text_scanWord_58 rfl ?_
        refine lv_lor hx hb d_Text_scanWord_59 ?_
        refine lv_lstore (lv' := [(4, .long ((f <<< ((nI 8).toInt64 &&& 63)) ||| ((fb x).toInt64))), (8, .int (nI x)), (6, .long r), (0, .ref qt), (1, .int (nI t)), (2, .int (nI i)), (3, .int (nI j))]) hx hb d_Text_scanWord_60 hl (by decide) rfl (fun ls hl => ?_)
        refine lv_goto (tgt := 81) hx hb d_Text_scanWord_62 (by decide) ?_
        refine lv_iinc (v := nI (x + 1)) (lv' := [(8, .int (nI (x + 1))), (4, .long ((f <<< ((nI 8).toInt64 &&& 63)) ||| ((fb x).toInt64))), (6, .long r), (0, .ref qt), (1, .int (nI t)), (2, .int (nI i)), (3, .int (nI j))]) hx hb d_Text_scanWord_81 hl (k := 1) rfl (nI_1 _) (by decide) rfl (fun ls hl => ?_)
        refine lv_goto (tgt := 31) hx hb d_Text_scanWord_84 (by decide) ?_
        exact ih (x + 1) ((f <<< ((nI 8).toInt64 &&& 63)) ||| ((fb x).toInt64)) (r) H locs ls (by omega) (by omega) (by omega) (by rw [← hr, tx_hw_u fb i j x, if_pos (by omega)]; first | rw [if_pos (by omega)] | rw [if_neg (by omega)]) hP hD hS (lv_sub hl [0, 2, 1, 3, 4, 5, 6] rfl)
set_option maxHeartbeats 4000000 in
set_option maxRecDepth 100000 in
/-- scanWord(t, i, j) -/
theorem c_Text_scanWord (l : Launch) (dC : Nat → ClassId) (dI : Nat → Nat → Nat) (cB cI cL cZ cC cO : ClassId) (qt qb qk qp qn qh ql : Nat) (fb : Nat → Int32) (fh fl : Nat → Int64) (n t i j : Nat) (sz : Nat) (hn : n ≤ 2000) (ht : t ≤ 1000) (hi : i < j) (hj : j ≤ n) : Met l y_Text_scanWord w_Text_scanWord ({ frames := 1, cells := 0, slots := 0, locals := 30 }) (va_Pc [.ref qt, .int (nI t), .int (nI i), .int (nI j)] (wB (dC, dI) cl [(cB, .byte), (cI, .int), (cL, .long), (cZ, .boolean), (cC, .char), (cO, .object "java/lang/Object")] sz [(qt, .inr (1, [.ref qb, .int (nI n), .ref qk, .ref qp, .ref qn, .ref qh, .ref ql])), (qb, .inl (cB, 2000, .inl fb)), (qh, .inl (cL, 1001, .inr (.inl fh))), (ql, .inl (cL, 1001, .inr (.inl fl)))])) (va_Qi (fun (r : Int32) (u : (Nat → Int64) × (Nat → Int64)) => r = nI (tx_wk fb i j) ∧ u = (tx_wh fb i j t fh, tx_wl fb i j t fl)) (fun u t => wA (dC, dI) cl [(cB, .byte), (cI, .int), (cL, .long), (cZ, .boolean), (cC, .char), (cO, .object "java/lang/Object")] (va_A [(qt, .inr (1, [.ref qb, .int (nI n), .ref qk, .ref qp, .ref qn, .ref qh, .ref ql])), (qb, .inl (cB, 2000, .inl fb)), (qh, .inl (cL, 1001, .inr (.inl fh))), (ql, .inl (cL, 1001, .inr (.inl fl)))] sz) [(qt, .inr (1, [.ref qb, .int (nI n), .ref qk, .ref qp, .ref qn, .ref qh, .ref ql])), (qb, .inl (cB, 2000, .inl fb)), (qh, .inl (cL, 1001, .inr (.inl u.1))), (ql, .inl (cL, 1001, .inr (.inl u.2)))] t) (va_A [(qt, .inr (1, [.ref qb, .int (nI n), .ref qk, .ref qp, .ref qn, .ref qh, .ref ql])), (qb, .inl (cB, 2000, .inl fb)), (qh, .inl (cL, 1001, .inr (.inl fh))), (ql, .inl (cL, 1001, .inr (.inl fl)))] sz)) 0 0 (va_A [(qt, .inr (1, [.ref qb, .int (nI n), .ref qk, .ref qp, .ref qn, .ref qh, .ref ql])), (qb, .inl (cB, 2000, .inl fb)), (qh, .inl (cL, 1001, .inr (.inl fh))), (ql, .inl (cL, 1001, .inr (.inl fl)))] sz) := by
  refine Met.ofW (cc := b_Text_scanWord) (maxL := 9) (ret := (some ClassFile.FieldType.int)) (by decide) rfl ?_
  intro p e s m args below meth c s₁ B hml hv
  obtain ⟨rfl, hsz, hP, hK, hD0, hF⟩ := hv
  have hx := B.exec
  have hb := B.bytes
  have hr := B.returns
  have hts := atoms_spec (ws := w_Text_scanWord) B.pre
  have hts : ∀ w ∈ tb, w.before _ s = true := fun w h => hts w (List.mem_cons_of_mem _ h)
  have hown : s.vm.findClass R_Text = some m.cls := findClass_of_methodNamed B.named
  have hlocks := B.notSynchronized
  subst hsz
  have hD := hD0.self (sz := s.heap.size)
  generalize hAe : va_A [(qt, .inr (1, [.ref qb, .int (nI n), .ref qk, .ref qp, .ref qn, .ref qh, .ref ql])), (qb, .inl (cB, 2000, .inl fb)), (qh, .inl (cL, 1001, .inr (.inl fh))), (ql, .inl (cL, 1001, .inr (.inl fl)))] s.heap.size = A at hD hF ⊢
  have hA : ∀ q : Nat, s.heap.size ≤ q → A q := fun q h => by rw [← hAe]; exact Or.inr h
  have hS : va_S A s.heap s.heap [] := va_S.rf
  have hP : va_P (dC, dI) cl [(qt, .inr (1, [.ref qb, .int (nI n), .ref qk, .ref qp, .ref qn, .ref qh, .ref ql])), (qb, .inl (cB, 2000, .inl fb)), (qh, .inl (cL, 1001, .inr (.inl fh))), (ql, .inl (cL, 1001, .inr (.inl fl)))] s.heap := hP
  have hl := lv_entry ([.ref qt, .int (nI t), .int (nI i), .int (nI j)]) (n := 9) (Nat.le_of_ble_eq_true rfl)
  rw [lg_entry_eq]
  generalize (lg_sl ([.ref qt, .int (nI t), .int (nI i), .int (nI j)]) ++ List.replicate (9 - (lg_sl ([.ref qt, .int (nI t), .int (nI i), .int (nI j)])).length) Slot.unset).toArray = ls at hl ⊢
  have hl : lv_has ls 9 [(0, .ref qt), (1, .int (nI t)), (2, .int (nI i)), (3, .int (nI j))] := hl
  refine lv_iload_n hx hb d_Text_scanWord_0 rfl (lv_at hl 3 rfl) ?_
  refine lv_iload_n hx hb d_Text_scanWord_1 rfl (lv_at hl 2 rfl) ?_
  refine nv_isub hx hb (by omega) d_Text_scanWord_2 ?_
  refine lv_bipush (v := nI 16) hx hb d_Text_scanWord_3 (by decide) ?_
  refine nv_icmp_gt (tgt := 20) hx hb (by omega) (by omega) d_Text_scanWord_5 (by decide) (fun c_1 => ?_) (fun c_1 => ?_)
  · refine lv_iconst (v := nI 1) hx hb d_Text_scanWord_20 (by decide) ?_
    have hok : tx_wok fb i j = false := by first | (simp [tx_wok, c_1]; done) | (simp [tx_wok]; omega)
    exact wr_i hx hb hr hlocks (fh, fl) ⟨by simp [tx_wk, hok], by simp [tx_wh, tx_wl, hok]⟩ hK hP hD hS d_Text_scanWord_21
  · refine lv_aload_n hx hb d_Text_scanWord_8 rfl (lv_at hl 0 rfl) ?_
    refine va_get (D := (dC, dI)) (ci := 1) (v := .ref qb) (C := R_Text) (T := F_Text) (N := 7) hx hb hts i_Text hown hK hP 0 rfl rfl 0 (by decide) (hts _ k_37) (fun _ h9 => h9) rfl d_Text_scanWord_9 ?_
    refine lv_iload_n hx hb d_Text_scanWord_12 rfl (lv_at hl 2 rfl) ?_
    refine nv_bald hx hb hK hP 1 0 rfl rfl (by omega) (by decide) d_Text_scanWord_13 ?_
    refine wc_i (wc := []) (wr := [(qt, .inr (1, [.ref qb, .int (nI n), .ref qk, .ref qp, .ref qn, .ref qh, .ref ql])), (qb, .inl (cB, 2000, .inl fb)), (qh, .inl (cL, 1001, .inr (.inl fh))), (ql, .inl (cL, 1001, .inr (.inl fl)))]) (va_runS (As := [.int (fb i)]) (rest := []) ⟨hx, hb, hml, hown, hts⟩ (c_Text_isLetter l dC dI cB cI cL cZ cC cO (fb i) _ ) (va_cwS 1 hts (good_S k_495 k_496 k_2 k_497) rfl rfl rfl (by decide +kernel) ⟨Nat.le_of_ble_eq_true rfl, Nat.le_of_ble_eq_true rfl⟩) (wc_preS hK hP hD hS hA hF [] (by decide) rfl) rfl rfl hl.1 rfl (lv_room (Nat.le_of_ble_eq_true rfl)) d_Text_scanWord_14 ⟨Nat.le_of_ble_eq_true rfl, Nat.le_of_ble_eq_true rfl⟩) hP hD hS hA [] [0, 1, 2, 3] rfl rfl (by decide) (by decide) (fun r_3 u H locs w_2 hP hD hS => ?_)
    have hP : va_P (dC, dI) cl [(qt, .inr (1, [.ref qb, .int (nI n), .ref qk, .ref qp, .ref qn, .ref qh, .ref ql])), (qb, .inl (cB, 2000, .inl fb)), (qh, .inl (cL, 1001, .inr (.inl fh))), (ql, .inl (cL, 1001, .inr (.inl fl)))] H := hP
    have hD : va_D A [(qt, .inr (1, [.ref qb, .int (nI n), .ref qk, .ref qp, .ref qn, .ref qh, .ref ql])), (qb, .inl (cB, 2000, .inl fb)), (qh, .inl (cL, 1001, .inr (.inl fh))), (ql, .inl (cL, 1001, .inr (.inl fl)))] := hD
    subst w_2
    refine nv_bif_ne (tgt := 22) hx hb d_Text_scanWord_17 (by decide) (fun c_4 => ?_) (fun c_4 => ?_)
    · have hok : tx_wok fb i j = true := by simp [tx_wok, c_1, c_4]
      refine lv_lconst (v := 0) hx hb d_Text_scanWord_22 (by decide) ?_
      refine lv_lstore (lv' := [(4, .long 0), (0, .ref qt), (1, .int (nI t)), (2, .int (nI i)), (3, .int (nI j))]) hx hb d_Text_scanWord_23 hl (by decide) rfl (fun ls hl => ?_)
      refine lv_lconst (v := 0) hx hb d_Text_scanWord_25 (by decide) ?_
      refine lv_lstore (lv' := [(6, .long 0), (4, .long 0), (0, .ref qt), (1, .int (nI t)), (2, .int (nI i)), (3, .int (nI j))]) hx hb d_Text_scanWord_26 hl (by decide) rfl (fun ls hl => ?_)
      refine lv_iload_n hx hb d_Text_scanWord_28 rfl (lv_at hl 4 rfl) ?_
      refine lv_istore (lv' := [(8, .int (nI i)), (6, .long 0), (4, .long 0), (0, .ref qt), (1, .int (nI t)), (2, .int (nI i)), (3, .int (nI j))]) hx hb d_Text_scanWord_29 hl (by decide) rfl (fun ls hl => ?_)
      refine lp_Text_scanWord (F := tx_word fb i j) hn hj hx hb hml hown hts hA hF hK (fun H locs ls hP hD hS hl => ?_) (j + 1 - i) i 0 0 _ _ ls (by omega) (by omega) (by omega) rfl hP hD hS (lv_sub hl [0, 1, 2, 3, 4, 5, 6] rfl)
      refine lv_aload_n hx hb d_Text_scanWord_87 rfl (lv_at hl 2 rfl) ?_
      refine va_get (D := (dC, dI)) (ci := 1) (v := .ref qh) (C := R_Text) (T := F_Text) (N := 7) hx hb hts i_Text hown hK hP 0 rfl rfl 5 (by decide) (hts _ k_46) (fun _ h9 => h9) rfl d_Text_scanWord_88 ?_
      refine lv_iload_n hx hb d_Text_scanWord_91 rfl (lv_at hl 3 rfl) ?_
      refine lv_lload hx hb d_Text_scanWord_92 (lv_at hl 1 rfl) ?_
      refine nv_last hx hb hK hP hD hS 2 2 rfl rfl (by omega) (by decide) d_Text_scanWord_94 (fun H locs hP hD hS => ?_)
      have hP : va_P (dC, dI) cl [(qt, .inr (1, [.ref qb, .int (nI n), .ref qk, .ref qp, .ref qn, .ref qh, .ref ql])), (qb, .inl (cB, 2000, .inl fb)), (qh, .inl (cL, 1001, .inr (.inl (vp_updL fh t ((tx_word fb i j).1))))), (ql, .inl (cL, 1001, .inr (.inl fl)))] H := hP
      have hD : va_D A [(qt, .inr (1, [.ref qb, .int (nI n), .ref qk, .ref qp, .ref qn, .ref qh, .ref ql])), (qb, .inl (cB, 2000, .inl fb)), (qh, .inl (cL, 1001, .inr (.inl (vp_updL fh t ((tx_word fb i j).1))))), (ql, .inl (cL, 1001, .inr (.inl fl)))] := hD
      refine lv_aload_n hx hb d_Text_scanWord_95 rfl (lv_at hl 2 rfl) ?_
      refine va_get (D := (dC, dI)) (ci := 1) (v := .ref ql) (C := R_Text) (T := F_Text) (N := 7) hx hb hts i_Text hown hK hP 0 rfl rfl 6 (by decide) (hts _ k_48) (fun _ h9 => h9) rfl d_Text_scanWord_96 ?_
      refine lv_iload_n hx hb d_Text_scanWord_99 rfl (lv_at hl 3 rfl) ?_
      refine lv_lload hx hb d_Text_scanWord_100 (lv_at hl 0 rfl) ?_
      refine nv_last hx hb hK hP hD hS 3 2 rfl rfl (by omega) (by decide) d_Text_scanWord_102 (fun H locs hP hD hS => ?_)
      have hP : va_P (dC, dI) cl [(qt, .inr (1, [.ref qb, .int (nI n), .ref qk, .ref qp, .ref qn, .ref qh, .ref ql])), (qb, .inl (cB, 2000, .inl fb)), (qh, .inl (cL, 1001, .inr (.inl (vp_updL fh t ((tx_word fb i j).1))))), (ql, .inl (cL, 1001, .inr (.inl (vp_updL fl t ((tx_word fb i j).2)))))] H := hP
      have hD : va_D A [(qt, .inr (1, [.ref qb, .int (nI n), .ref qk, .ref qp, .ref qn, .ref qh, .ref ql])), (qb, .inl (cB, 2000, .inl fb)), (qh, .inl (cL, 1001, .inr (.inl (vp_updL fh t ((tx_word fb i j).1))))), (ql, .inl (cL, 1001, .inr (.inl (vp_updL fl t ((tx_word fb i j).2)))))] := hD
      refine lv_lload hx hb d_Text_scanWord_103 (lv_at hl 1 rfl) ?_
      refine lv_lload hx hb d_Text_scanWord_105 (lv_at hl 0 rfl) ?_
      refine wc_i (wc := []) (wr := [(qt, .inr (1, [.ref qb, .int (nI n), .ref qk, .ref qp, .ref qn, .ref qh, .ref ql])), (qb, .inl (cB, 2000, .inl fb)), (qh, .inl (cL, 1001, .inr (.inl (vp_updL fh t ((tx_word fb i j).1))))), (ql, .inl (cL, 1001, .inr (.inl (vp_updL fl t ((tx_word fb i j).2)))))]) (va_runS (As := [.long ((tx_word fb i j).1), .long ((tx_word fb i j).2)]) (rest := []) ⟨hx, hb, hml, hown, hts⟩ (c_Text_wordKind l dC dI cB cI cL cZ cC cO ((tx_word fb i j).1) ((tx_word fb i j).2) _ ) (va_cwS 2 hts (good_S k_509 k_510 k_2 k_511) rfl rfl rfl (by decide +kernel) ⟨Nat.le_of_ble_eq_true rfl, Nat.le_of_ble_eq_true rfl⟩) (wc_preS hK hP hD hS hA hF [] (by decide) rfl) rfl rfl hl.1 rfl (lv_room (Nat.le_of_ble_eq_true rfl)) d_Text_scanWord_107 ⟨Nat.le_of_ble_eq_true rfl, Nat.le_of_ble_eq_true rfl⟩) hP hD hS hA [] [0, 1, 2, 3] rfl rfl (by decide) (by decide) (fun r_6 u H locs w_5 hP hD hS => ?_)
      have hP : va_P (dC, dI) cl [(qt, .inr (1, [.ref qb, .int (nI n), .ref qk, .ref qp, .ref qn, .ref qh, .ref ql])), (qb, .inl (cB, 2000, .inl fb)), (qh, .inl (cL, 1001, .inr (.inl (vp_updL fh t ((tx_word fb i j).1))))), (ql, .inl (cL, 1001, .inr (.inl (vp_updL fl t ((tx_word fb i j).2)))))] H := hP
      have hD : va_D A [(qt, .inr (1, [.ref qb, .int (nI n), .ref qk, .ref qp, .ref qn, .ref qh, .ref ql])), (qb, .inl (cB, 2000, .inl fb)), (qh, .inl (cL, 1001, .inr (.inl (vp_updL fh t ((tx_word fb i j).1))))), (ql, .inl (cL, 1001, .inr (.inl (vp_updL fl t ((tx_word fb i j).2)))))] := hD
      subst w_5
      exact wr_i hx hb hr hlocks (vp_updL fh t (tx_word fb i j).1, vp_updL fl t (tx_word fb i j).2) ⟨by simp [tx_wk, hok], by simp [tx_wh, tx_wl, hok]⟩ hK hP hD hS d_Text_scanWord_110
    · refine lv_iconst (v := nI 1) hx hb d_Text_scanWord_20 (by decide) ?_
      have hok : tx_wok fb i j = false := by first | (simp [tx_wok, c_1, c_4]; done) | (simp [tx_wok]; omega)
      exact wr_i hx hb hr hlocks (fh, fl) ⟨by simp [tx_wk, hok], by simp [tx_wh, tx_wl, hok]⟩ hK hP hD hS d_Text_scanWord_21
