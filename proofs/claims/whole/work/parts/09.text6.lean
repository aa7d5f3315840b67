abbrev R5 : Type := (Nat → Int32) × (Nat → Int32) × (Nat → Int32) × (Nat → Int64) × (Nat → Int64)
theorem tx_skip_le (b : Nat → Int32) (n : Nat) : ∀ k i, i ≤ n → tx_skip b n k i ≤ n
  | 0, i, h => h
  | k + 1, i, h => by
    show (if i < n then (if tx_beh b n i = i then i else tx_skip b n k (tx_beh b n i)) else i) ≤ n
    split
    · split
      · exact h
      · exact tx_skip_le b n k _ (tx_beh_le (by assumption))
    · exact h
theorem tk_end_le {b : Nat → Int32} {n i : Nat} (h : i ≤ n) : tk_end b n i ≤ n := by
  unfold tk_end
  split
  · exact h
  split
  · have := tx_wend_le b (n - i) i; omega
  split
  · rename_i q; have := q.2.1; omega
  · omega
def tx_step (b : Nat → Int32) (n t a : Nat) (S : R5) : R5 := (upd S.1 t (tk_kind b n a), upd S.2.1 t (nI a), tk_num b n a t S.2.2.1, tk_hd b n a t S.2.2.2.1, tk_tl b n a t S.2.2.2.2)
def tx_scan (b : Nat → Int32) (n : Nat) : Nat → Nat → Nat → R5 → R5
  | 0, _, _, S => (upd S.1 1000 (nI 2), S.2)
  | k + 1, t, i, S => if tk_kind b n (tx_skip b n n i) = nI 0 ∨ tk_kind b n (tx_skip b n n i) = nI 1 then tx_step b n t (tx_skip b n n i) S else tx_scan b n k (t + 1) (tk_end b n (tx_skip b n n i)) (tx_step b n t (tx_skip b n n i) S)
theorem tx_scan_u (b : Nat → Int32) (n t i : Nat) (S : R5) : tx_scan b n (1001 - t) t i S = if t < 1001 then (if tk_kind b n (tx_skip b n n i) = nI 0 ∨ tk_kind b n (tx_skip b n n i) = nI 1 then tx_step b n t (tx_skip b n n i) S else tx_scan b n (1001 - (t + 1)) (t + 1) (tk_end b n (tx_skip b n n i)) (tx_step b n t (tx_skip b n n i) S)) else (upd S.1 1000 (nI 2), S.2) := by
  by_cases h : t < 1001
  · rw [if_pos h, show 1001 - t = (1001 - (t + 1)) + 1 by omega]; rfl
  · rw [if_neg h, show 1001 - t = 0 by omega]; rfl
theorem d_Text_scan_0 : decode b_Text_scan 0 = .ok (.iconst 0, 1) := by decide +kernel
theorem d_Text_scan_1 : decode b_Text_scan 1 = .ok (.istore_n 1, 1) := by decide +kernel
theorem d_Text_scan_2 : decode b_Text_scan 2 = .ok (.iconst 0, 1) := by decide +kernel
theorem d_Text_scan_3 : decode b_Text_scan 3 = .ok (.istore_n 2, 1) := by decide +kernel
theorem d_Text_scan_4 : decode b_Text_scan 4 = .ok (.iload_n 2, 1) := by decide +kernel
theorem d_Text_scan_5 : decode b_Text_scan 5 = .ok (.sipush 1000, 3) := by decide +kernel
theorem d_Text_scan_8 : decode b_Text_scan 8 = .ok (.if_icmp .gt 49, 3) := by decide +kernel
theorem d_Text_scan_11 : decode b_Text_scan 11 = .ok (.aload_n 0, 1) := by decide +kernel
theorem d_Text_scan_12 : decode b_Text_scan 12 = .ok (.iload_n 1, 1) := by decide +kernel
theorem d_Text_scan_13 : decode b_Text_scan 13 = .ok (.invokevirtual 34, 3) := by decide +kernel
theorem d_Text_scan_16 : decode b_Text_scan 16 = .ok (.istore_n 1, 1) := by decide +kernel
theorem d_Text_scan_17 : decode b_Text_scan 17 = .ok (.aload_n 0, 1) := by decide +kernel
theorem d_Text_scan_18 : decode b_Text_scan 18 = .ok (.getfield 21, 3) := by decide +kernel
theorem d_Text_scan_21 : decode b_Text_scan 21 = .ok (.iload_n 2, 1) := by decide +kernel
theorem d_Text_scan_22 : decode b_Text_scan 22 = .ok (.iload_n 1, 1) := by decide +kernel
theorem d_Text_scan_23 : decode b_Text_scan 23 = .ok (.iastore, 1) := by decide +kernel
theorem d_Text_scan_24 : decode b_Text_scan 24 = .ok (.aload_n 0, 1) := by decide +kernel
theorem d_Text_scan_25 : decode b_Text_scan 25 = .ok (.iload_n 2, 1) := by decide +kernel
theorem d_Text_scan_26 : decode b_Text_scan 26 = .ok (.iload_n 1, 1) := by decide +kernel
theorem d_Text_scan_27 : decode b_Text_scan 27 = .ok (.invokevirtual 38, 3) := by decide +kernel
theorem d_Text_scan_30 : decode b_Text_scan 30 = .ok (.istore_n 1, 1) := by decide +kernel
theorem d_Text_scan_31 : decode b_Text_scan 31 = .ok (.aload_n 0, 1) := by decide +kernel
theorem d_Text_scan_32 : decode b_Text_scan 32 = .ok (.getfield 17, 3) := by decide +kernel
theorem d_Text_scan_35 : decode b_Text_scan 35 = .ok (.iload_n 2, 1) := by decide +kernel
theorem d_Text_scan_36 : decode b_Text_scan 36 = .ok (.iaload, 1) := by decide +kernel
theorem d_Text_scan_37 : decode b_Text_scan 37 = .ok (.ifCond .eq 13, 3) := by decide +kernel
theorem d_Text_scan_40 : decode b_Text_scan 40 = .ok (.aload_n 0, 1) := by decide +kernel
theorem d_Text_scan_41 : decode b_Text_scan 41 = .ok (.getfield 17, 3) := by decide +kernel
theorem d_Text_scan_44 : decode b_Text_scan 44 = .ok (.iload_n 2, 1) := by decide +kernel
theorem d_Text_scan_45 : decode b_Text_scan 45 = .ok (.iaload, 1) := by decide +kernel
theorem d_Text_scan_46 : decode b_Text_scan 46 = .ok (.iconst 1, 1) := by decide +kernel
theorem d_Text_scan_47 : decode b_Text_scan 47 = .ok (.if_icmp .ne 4, 3) := by decide +kernel
theorem d_Text_scan_50 : decode b_Text_scan 50 = .ok (.return_, 1) := by decide +kernel
theorem d_Text_scan_51 : decode b_Text_scan 51 = .ok (.iinc 2 1, 3) := by decide +kernel
theorem d_Text_scan_54 : decode b_Text_scan 54 = .ok (.goto (-50), 3) := by decide +kernel
theorem d_Text_scan_57 : decode b_Text_scan 57 = .ok (.aload_n 0, 1) := by decide +kernel
theorem d_Text_scan_58 : decode b_Text_scan 58 = .ok (.getfield 17, 3) := by decide +kernel
theorem d_Text_scan_61 : decode b_Text_scan 61 = .ok (.sipush 1000, 3) := by decide +kernel
theorem d_Text_scan_64 : decode b_Text_scan 64 = .ok (.iconst 2, 1) := by decide +kernel
theorem d_Text_scan_65 : decode b_Text_scan 65 = .ok (.iastore, 1) := by decide +kernel
theorem d_Text_scan_66 : decode b_Text_scan 66 = .ok (.return_, 1) := by decide +kernel
set_option maxHeartbeats 4000000 in
set_option maxRecDepth 100000 in
theorem lp_Text_scan {p : Program} {l : Launch} {e : Env} {s : State} {m : MethodId} {args : Array Value} {below : List Frame} {meth : Method} {c : Code} {Q : State → Prop} {A : Nat → Prop} {dC : Nat → ClassId} {dI : Nat → Nat → Nat} {cB cI cL cZ cC cO : ClassId} {qt qb qk qp qn qh ql : Nat} {fb : Nat → Int32} {n : Nat} {F : R5} (hn : n ≤ 2000) (hx : p.tables.exec = Jvm.exec) (hb : c.code = b_Text_scan) (hml : c.maxLocals = 3) (hown : s.vm.findClass R_Text = some m.cls) (hts : ∀ w ∈ tb, w.before args s = true) (hA : ∀ q, s.heap.size ≤ q → A q) (hF : stF A s) (hK : va_K (dC, dI) cl [(cB, .byte), (cI, .int), (cL, .long), (cZ, .boolean), (cC, .char), (cO, .object "java/lang/Object")] s)
    (kx : ∀  (H : Heap) (locs : List Loc) (ls : Array Slot), va_P (dC, dI) cl [(qt, .inr (1, [.ref qb, .int (nI n), .ref qk, .ref qp, .ref qn, .ref qh, .ref ql])), (qb, .inl (cB, 2000, .inl fb)), (qk, .inl (cI, 1001, .inl F.1)), (qp, .inl (cI, 1001, .inl F.2.1)), (qn, .inl (cI, 1001, .inl F.2.2.1)), (qh, .inl (cL, 1001, .inr (.inl F.2.2.2.1))), (ql, .inl (cL, 1001, .inr (.inl F.2.2.2.2)))] H → va_D A [(qt, .inr (1, [.ref qb, .int (nI n), .ref qk, .ref qp, .ref qn, .ref qh, .ref ql])), (qb, .inl (cB, 2000, .inl fb)), (qk, .inl (cI, 1001, .inl F.1)), (qp, .inl (cI, 1001, .inl F.2.1)), (qn, .inl (cI, 1001, .inl F.2.2.1)), (qh, .inl (cL, 1001, .inr (.inl F.2.2.2.1))), (ql, .inl (cL, 1001, .inr (.inl F.2.2.2.2)))] → va_S A s.heap H locs → lv_has ls 3 [(0, .ref qt)] → W p l e (headSpec w_Text_scan { frames := 3, cells := 0, slots := 0, locals := 90 }).room s m args below meth c H locs 0 0 Q (F0 m 50 ls [])) (ky : ∀  (H : Heap) (locs : List Loc) (ls : Array Slot), va_P (dC, dI) cl [(qt, .inr (1, [.ref qb, .int (nI n), .ref qk, .ref qp, .ref qn, .ref qh, .ref ql])), (qb, .inl (cB, 2000, .inl fb)), (qk, .inl (cI, 1001, .inl F.1)), (qp, .inl (cI, 1001, .inl F.2.1)), (qn, .inl (cI, 1001, .inl F.2.2.1)), (qh, .inl (cL, 1001, .inr (.inl F.2.2.2.1))), (ql, .inl (cL, 1001, .inr (.inl F.2.2.2.2)))] H → va_D A [(qt, .inr (1, [.ref qb, .int (nI n), .ref qk, .ref qp, .ref qn, .ref qh, .ref ql])), (qb, .inl (cB, 2000, .inl fb)), (qk, .inl (cI, 1001, .inl F.1)), (qp, .inl (cI, 1001, .inl F.2.1)), (qn, .inl (cI, 1001, .inl F.2.2.1)), (qh, .inl (cL, 1001, .inr (.inl F.2.2.2.1))), (ql, .inl (cL, 1001, .inr (.inl F.2.2.2.2)))] → va_S A s.heap H locs → lv_has ls 3 [(0, .ref qt)] → W p l e (headSpec w_Text_scan { frames := 3, cells := 0, slots := 0, locals := 90 }).room s m args below meth c H locs 0 0 Q (F0 m 66 ls [])) :
    ∀ (k : Nat) (t i : Nat) (fk fp fn : Nat → Int32) (fh fl : Nat → Int64) (H : Heap) (locs : List Loc) (ls : Array Slot), 1001 < t + k → t ≤ 1001 → i ≤ n → tx_scan fb n (1001 - t) t i (fk, fp, fn, fh, fl) = F → va_P (dC, dI) cl [(qt, .inr (1, [.ref qb, .int (nI n), .ref qk, .ref qp, .ref qn, .ref qh, .ref ql])), (qb, .inl (cB, 2000, .inl fb)), (qk, .inl (cI, 1001, .inl fk)), (qp, .inl (cI, 1001, .inl fp)), (qn, .inl (cI, 1001, .inl fn)), (qh, .inl (cL, 1001, .inr (.inl fh))), (ql, .inl (cL, 1001, .inr (.inl fl)))] H → va_D A [(qt, .inr (1, [.ref qb, .int (nI n), .ref qk, .ref qp, .ref qn, .ref qh, .ref ql])), (qb, .inl (cB, 2000, .inl fb)), (qk, .inl (cI, 1001, .inl fk)), (qp, .inl (cI, 1001, .inl fp)), (qn, .inl (cI, 1001, .inl fn)), (qh, .inl (cL, 1001, .inr (.inl fh))), (ql, .inl (cL, 1001, .inr (.inl fl)))] → va_S A s.heap H locs → lv_has ls 3 [(2, .int (nI t)), (1, .int (nI i)), (0, .ref qt)] → W p l e (headSpec w_Text_scan { frames := 3, cells := 0, slots := 0, locals := 90 }).room s m args below meth c H locs 0 0 Q (F0 m 4 ls []) := by
  intro k
  induction k with
  | zero =>
    intro t i fk fp fn fh fl H locs ls hk ht hi hr hP hD hS hl
    exfalso; omega
  | succ k ih =>
    intro t i fk fp fn fh fl H locs ls hk ht hi hr hP hD hS hl
    refine lv_iload_n hx hb d_Text_scan_4 rfl (lv_at hl 0 rfl) ?_
    refine lv_sipush (v := nI 1000) hx hb d_Text_scan_5 (by decide) ?_
    refine nv_icmp_gt (tgt := 57) hx hb (by omega) (by omega) d_Text_scan_8 (by decide) (fun c_1 => ?_) (fun c_1 => ?_)
    · refine lv_aload_n hx hb d_Text_scan_57 rfl (lv_at hl 2 rfl) ?_
      refine va_get (D := (dC, dI)) (ci := 1) (v := .ref qk) (C := R_Text) (T := F_Text) (N := 7) hx hb hts i_Text hown hK hP 0 rfl rfl 2 (by decide) (hts _ k_40) (fun _ h9 => h9) rfl d_Text_scan_58 ?_
      refine lv_sipush (v := nI 1000) hx hb d_Text_scan_61 (by decide) ?_
      refine lv_iconst (v := nI 2) hx hb d_Text_scan_64 (by decide) ?_
      refine nv_iast hx hb hK hP hD hS 2 1 rfl rfl (by omega) (by decide) d_Text_scan_65 (fun H locs hP hD hS => ?_)
      have hP : va_P (dC, dI) cl [(qt, .inr (1, [.ref qb, .int (nI n), .ref qk, .ref qp, .ref qn, .ref qh, .ref ql])), (qb, .inl (cB, 2000, .inl fb)), (qk, .inl (cI, 1001, .inl (upd fk 1000 (nI 2)))), (qp, .inl (cI, 1001, .inl fp)), (qn, .inl (cI, 1001, .inl fn)), (qh, .inl (cL, 1001, .inr (.inl fh))), (ql, .inl (cL, 1001, .inr (.inl fl)))] H := hP
      have hD : va_D A [(qt, .inr (1, [.ref qb, .int (nI n), .ref qk, .ref qp, .ref qn, .ref qh, .ref ql])), (qb, .inl (cB, 2000, .inl fb)), (qk, .inl (cI, 1001, .inl (upd fk 1000 (nI 2)))), (qp, .inl (cI, 1001, .inl fp)), (qn, .inl (cI, 1001, .inl fn)), (qh, .inl (cL, 1001, .inr (.inl fh))), (ql, .inl (cL, 1001, .inr (.inl fl)))] := hD
      have hq : (upd fk 1000 (nI 2), fp, fn, fh, fl) = F := by rw [← hr, tx_scan_u, if_neg (by omega)]
      subst hq
      exact ky H locs ls hP hD hS (lv_sub hl [2] rfl)
    · refine lv_aload_n hx hb d_Text_scan_11 rfl (lv_at hl 2 rfl) ?_
      refine lv_iload_n hx hb d_Text_scan_12 rfl (lv_at hl 1 rfl) ?_
      refine wc_i (wc := [(qt, .inr (1, [.ref qb, .int (nI n), .ref qk, .ref qp, .ref qn, .ref qh, .ref ql])), (qb, .inl (cB, 2000, .inl fb))]) (wr := [(qk, .inl (cI, 1001, .inl fk)), (qp, .inl (cI, 1001, .inl fp)), (qn, .inl (cI, 1001, .inl fn)), (qh, .inl (cL, 1001, .inr (.inl fh))), (ql, .inl (cL, 1001, .inr (.inl fl)))]) (va_runV (As := [.int (nI i)]) (rest := []) ⟨hx, hb, hml, hown, hts⟩ (c_Text_skipBlanks l dC dI cB cI cL cZ cC cO qt qb qk qp qn qh ql fb n i _ hn hi) (cwV 1 hts (good_V k_472 k_474 s_Text_skipBlanks k_2 k_475) rfl rfl rfl (by decide +kernel) ⟨Nat.le_of_ble_eq_true rfl, Nat.le_of_ble_eq_true rfl⟩) (wc_preV (k0 := 0) (ci := 1) (r := (R_Text, F_Text, 7)) hK hP hD hS hA hF [0, 1] (by decide) rfl rfl rfl) rfl rfl hl.1 rfl (lv_room (Nat.le_of_ble_eq_true rfl)) d_Text_scan_13 ⟨Nat.le_of_ble_eq_true rfl, Nat.le_of_ble_eq_true rfl⟩) hP hD hS hA [0, 1] [2, 3, 4, 5, 6] rfl rfl (by decide) (by decide) (fun r_3 u H locs w_2 hP hD hS => ?_)
      have hP : va_P (dC, dI) cl [(qk, .inl (cI, 1001, .inl fk)), (qp, .inl (cI, 1001, .inl fp)), (qn, .inl (cI, 1001, .inl fn)), (qh, .inl (cL, 1001, .inr (.inl fh))), (ql, .inl (cL, 1001, .inr (.inl fl))), (qt, .inr (1, [.ref qb, .int (nI n), .ref qk, .ref qp, .ref qn, .ref qh, .ref ql])), (qb, .inl (cB, 2000, .inl fb))] H := hP
      have hD : va_D A [(qk, .inl (cI, 1001, .inl fk)), (qp, .inl (cI, 1001, .inl fp)), (qn, .inl (cI, 1001, .inl fn)), (qh, .inl (cL, 1001, .inr (.inl fh))), (ql, .inl (cL, 1001, .inr (.inl fl))), (qt, .inr (1, [.ref qb, .int (nI n), .ref qk, .ref qp, .ref qn, .ref qh, .ref ql])), (qb, .inl (cB, 2000, .inl fb))] := hD
      subst w_2
      have ha : tx_skip fb n n i ≤ n := tx_skip_le fb n n i hi
      refine lv_istore_n (lv' := [(1, .int (nI (tx_skip fb n n i))), (2, .int (nI t)), (0, .ref qt)]) hx hb d_Text_scan_16 rfl hl (by decide) rfl (fun ls hl => ?_)
      refine lv_aload_n hx hb d_Text_scan_17 rfl (lv_at hl 2 rfl) ?_
      refine va_get (D := (dC, dI)) (ci := 1) (v := .ref qp) (C := R_Text) (T := F_Text) (N := 7) hx hb hts i_Text hown hK hP 5 rfl rfl 3 (by decide) (hts _ k_42) (fun _ h9 => h9) rfl d_Text_scan_18 ?_
      refine lv_iload_n hx hb d_Text_scan_21 rfl (lv_at hl 1 rfl) ?_
      refine lv_iload_n hx hb d_Text_scan_22 rfl (lv_at hl 0 rfl) ?_
      refine nv_iast hx hb hK hP hD hS 1 1 rfl rfl (by omega) (by decide) d_Text_scan_23 (fun H locs hP hD hS => ?_)
      have hP : va_P (dC, dI) cl [(qk, .inl (cI, 1001, .inl fk)), (qp, .inl (cI, 1001, .inl (upd fp t (nI (tx_skip fb n n i))))), (qn, .inl (cI, 1001, .inl fn)), (qh, .inl (cL, 1001, .inr (.inl fh))), (ql, .inl (cL, 1001, .inr (.inl fl))), (qt, .inr (1, [.ref qb, .int (nI n), .ref qk, .ref qp, .ref qn, .ref qh, .ref ql])), (qb, .inl (cB, 2000, .inl fb))] H := hP
      have hD : va_D A [(qk, .inl (cI, 1001, .inl fk)), (qp, .inl (cI, 1001, .inl (upd fp t (nI (tx_skip fb n n i))))), (qn, .inl (cI, 1001, .inl fn)), (qh, .inl (cL, 1001, .inr (.inl fh))), (ql, .inl (cL, 1001, .inr (.inl fl))), (qt, .inr (1, [.ref qb, .int (nI n), .ref qk, .ref qp, .ref qn, .ref qh, .ref ql])), (qb, .inl (cB, 2000, .inl fb))] := hD
      refine lv_aload_n hx hb d_Text_scan_24 rfl (lv_at hl 2 rfl) ?_
      refine lv_iload_n hx hb d_Text_scan_25 rfl (lv_at hl 1 rfl) ?_
      refine lv_iload_n hx hb d_Text_scan_26 rfl (lv_at hl 0 rfl) ?_
      refine wc_i (wc := [(qt, .inr (1, [.ref qb, .int (nI n), .ref qk, .ref qp, .ref qn, .ref qh, .ref ql])), (qb, .inl (cB, 2000, .inl fb)), (qk, .inl (cI, 1001, .inl fk)), (qn, .inl (cI, 1001, .inl fn)), (qh, .inl (cL, 1001, .inr (.inl fh))), (ql, .inl (cL, 1001, .inr (.inl fl)))]) (wr := [(qp, .inl (cI, 1001, .inl (upd fp t (nI (tx_skip fb n n i)))))]) (va_runV (As := [.int (nI t), .int (nI (tx_skip fb n n i))]) (rest := []) ⟨hx, hb, hml, hown, hts⟩ (c_Text_scanToken l dC dI cB cI cL cZ cC cO qt qb qk qp qn qh ql fb fk fn fh fl n t (tx_skip fb n n i) _ hn (by omega) ha) (cwV 2 hts (good_V k_488 k_490 s_Text_scanToken k_2 k_491) rfl rfl rfl (by decide +kernel) ⟨Nat.le_of_ble_eq_true rfl, Nat.le_of_ble_eq_true rfl⟩) (wc_preV (k0 := 5) (ci := 1) (r := (R_Text, F_Text, 7)) hK hP hD hS hA hF [5, 6, 0, 2, 3, 4] (by decide) rfl rfl rfl) rfl rfl hl.1 rfl (lv_room (Nat.le_of_ble_eq_true rfl)) d_Text_scan_27 ⟨Nat.le_of_ble_eq_true rfl, Nat.le_of_ble_eq_true rfl⟩) hP hD hS hA [5, 6, 0, 2, 3, 4] [1] rfl rfl (by decide) (by decide) (fun r_5 u H locs w_4 hP hD hS => ?_)
      have hP : va_P (dC, dI) cl [(qp, .inl (cI, 1001, .inl (upd fp t (nI (tx_skip fb n n i))))), (qt, .inr (1, [.ref qb, .int (nI n), .ref qk, .ref qp, .ref qn, .ref qh, .ref ql])), (qb, .inl (cB, 2000, .inl fb)), (qk, .inl (cI, 1001, .inl u.1)), (qn, .inl (cI, 1001, .inl u.2.1)), (qh, .inl (cL, 1001, .inr (.inl u.2.2.1))), (ql, .inl (cL, 1001, .inr (.inl u.2.2.2)))] H := hP
      have hD : va_D A [(qp, .inl (cI, 1001, .inl (upd fp t (nI (tx_skip fb n n i))))), (qt, .inr (1, [.ref qb, .int (nI n), .ref qk, .ref qp, .ref qn, .ref qh, .ref ql])), (qb, .inl (cB, 2000, .inl fb)), (qk, .inl (cI, 1001, .inl u.1)), (qn, .inl (cI, 1001, .inl u.2.1)), (qh, .inl (cL, 1001, .inr (.inl u.2.2.1))), (ql, .inl (cL, 1001, .inr (.inl u.2.2.2)))] := hD
      obtain ⟨rfl, rfl⟩ := w_4
      have hP : va_P (dC, dI) cl [(qp, .inl (cI, 1001, .inl (upd fp t (nI (tx_skip fb n n i))))), (qt, .inr (1, [.ref qb, .int (nI n), .ref qk, .ref qp, .ref qn, .ref qh, .ref ql])), (qb, .inl (cB, 2000, .inl fb)), (qk, .inl (cI, 1001, .inl (upd fk t (tk_kind fb n (tx_skip fb n n i))))), (qn, .inl (cI, 1001, .inl (tk_num fb n (tx_skip fb n n i) t fn))), (qh, .inl (cL, 1001, .inr (.inl (tk_hd fb n (tx_skip fb n n i) t fh)))), (ql, .inl (cL, 1001, .inr (.inl (tk_tl fb n (tx_skip fb n n i) t fl))))] H := hP
      have hD : va_D A [(qp, .inl (cI, 1001, .inl (upd fp t (nI (tx_skip fb n n i))))), (qt, .inr (1, [.ref qb, .int (nI n), .ref qk, .ref qp, .ref qn, .ref qh, .ref ql])), (qb, .inl (cB, 2000, .inl fb)), (qk, .inl (cI, 1001, .inl (upd fk t (tk_kind fb n (tx_skip fb n n i))))), (qn, .inl (cI, 1001, .inl (tk_num fb n (tx_skip fb n n i) t fn))), (qh, .inl (cL, 1001, .inr (.inl (tk_hd fb n (tx_skip fb n n i) t fh)))), (ql, .inl (cL, 1001, .inr (.inl (tk_tl fb n (tx_skip fb n n i) t fl))))] := hD
      refine lv_istore_n (lv' := [(1, .int (nI (tk_end fb n (tx_skip fb n n i)))), (2, .int (nI t)), (0, .ref qt)]) hx hb d_Text_scan_30 rfl hl (by decide) rfl (fun ls hl => ?_)
      refine lv_aload_n hx hb d_Text_scan_31 rfl (lv_at hl 2 rfl) ?_
      refine va_get (D := (dC, dI)) (ci := 1) (v := .ref qk) (C := R_Text) (T := F_Text) (N := 7) hx hb hts i_Text hown hK hP 1 rfl rfl 2 (by decide) (hts _ k_40) (fun _ h9 => h9) rfl d_Text_scan_32 ?_
      refine lv_iload_n hx hb d_Text_scan_35 rfl (lv_at hl 1 rfl) ?_
      refine nv_iald hx hb hK hP 3 1 rfl rfl (by omega) (by decide) d_Text_scan_36 ?_
      rw [pk_us]
      refine lv_if_eq (tgt := 50) hx hb d_Text_scan_37 (by decide) (fun c_6 => ?_) (fun c_6 => ?_)
      · have hq : tx_step fb n t (tx_skip fb n n i) (fk, fp, fn, fh, fl) = F := by rw [← hr, tx_scan_u, if_pos (by omega), if_pos (by first | exact Or.inl (by rw [nI_0]; exact c_6) | exact Or.inr c_6)]
        subst hq
        exact kx H locs ls (hP.sub [1, 2, 3, 0, 4, 5, 6] rfl) (hD.sub [1, 2, 3, 0, 4, 5, 6] (by decide) rfl) hS (lv_sub hl [2] rfl)
      · refine lv_aload_n hx hb d_Text_scan_40 rfl (lv_at hl 2 rfl) ?_
        refine va_get (D := (dC, dI)) (ci := 1) (v := .ref qk) (C := R_Text) (T := F_Text) (N := 7) hx hb hts i_Text hown hK hP 1 rfl rfl 2 (by decide) (hts _ k_40) (fun _ h9 => h9) rfl d_Text_scan_41 ?_
        refine lv_iload_n hx hb d_Text_scan_44 rfl (lv_at hl 1 rfl) ?_
        refine nv_iald hx hb hK hP 3 1 rfl rfl (by omega) (by decide) d_Text_scan_45 ?_
        rw [pk_us]
        refine lv_iconst (v := nI 1) hx hb d_Text_scan_46 (by decide) ?_
        refine lv_icmp_ne (tgt := 51) hx hb d_Text_scan_47 (by decide) (fun c_7 => ?_) (fun c_7 => ?_)
        · refine lv_iinc (v := nI (t + 1)) (lv' := [(2, .int (nI (t + 1))), (1, .int (nI (tk_end fb n (tx_skip fb n n i)))), (0, .ref qt)]) hx hb d_Text_scan_51 hl (k := 1) rfl (nI_1 _) (by decide) rfl (fun ls hl => ?_)
          refine lv_goto (tgt := 4) hx hb d_Text_scan_54 (by decide) ?_
          exact ih (t + 1) (tk_end fb n (tx_skip fb n n i)) _ _ _ _ _ H locs ls (by omega) (by omega) (tk_end_le ha) (by rw [← hr, tx_scan_u fb n t i, if_pos (by omega), if_neg (fun q => q.elim (fun q => c_6 (by rw [← nI_0]; exact q)) c_7)]; rfl) (hP.sub [1, 2, 3, 0, 4, 5, 6] rfl) (hD.sub [1, 2, 3, 0, 4, 5, 6] (by decide) rfl) hS (lv_sub hl [0, 1, 2] rfl)
        · have hq : tx_step fb n t (tx_skip fb n n i) (fk, fp, fn, fh, fl) = F := by rw [← hr, tx_scan_u, if_pos (by omega), if_pos (by first | exact Or.inl (by rw [nI_0]; exact c_7) | exact Or.inr c_7)]
          subst hq
          exact kx H locs ls (hP.sub [1, 2, 3, 0, 4, 5, 6] rfl) (hD.sub [1, 2, 3, 0, 4, 5, 6] (by decide) rfl) hS (lv_sub hl [2] rfl)
set_option maxHeartbeats 4000000 in
set_option maxRecDepth 100000 in
/-- scan() -/
theorem c_Text_scan (l : Launch) (dC : Nat → ClassId) (dI : Nat → Nat → Nat) (cB cI cL cZ cC cO : ClassId) (qt qb qk qp qn qh ql : Nat) (fb fk fp fn : Nat → Int32) (fh fl : Nat → Int64) (n : Nat) (sz : Nat) (hn : n ≤ 2000) : Met l y_Text_scan w_Text_scan ({ frames := 3, cells := 0, slots := 0, locals := 90 }) (va_Pc [.ref qt] (wB (dC, dI) cl [(cB, .byte), (cI, .int), (cL, .long), (cZ, .boolean), (cC, .char), (cO, .object "java/lang/Object")] sz [(qt, .inr (1, [.ref qb, .int (nI n), .ref qk, .ref qp, .ref qn, .ref qh, .ref ql])), (qb, .inl (cB, 2000, .inl fb)), (qk, .inl (cI, 1001, .inl fk)), (qp, .inl (cI, 1001, .inl fp)), (qn, .inl (cI, 1001, .inl fn)), (qh, .inl (cL, 1001, .inr (.inl fh))), (ql, .inl (cL, 1001, .inr (.inl fl)))])) (va_Qv (fun (u : R5) => u = tx_scan fb n 1001 0 0 (fk, fp, fn, fh, fl)) (fun u t => wA (dC, dI) cl [(cB, .byte), (cI, .int), (cL, .long), (cZ, .boolean), (cC, .char), (cO, .object "java/lang/Object")] (va_A [(qt, .inr (1, [.ref qb, .int (nI n), .ref qk, .ref qp, .ref qn, .ref qh, .ref ql])), (qb, .inl (cB, 2000, .inl fb)), (qk, .inl (cI, 1001, .inl fk)), (qp, .inl (cI, 1001, .inl fp)), (qn, .inl (cI, 1001, .inl fn)), (qh, .inl (cL, 1001, .inr (.inl fh))), (ql, .inl (cL, 1001, .inr (.inl fl)))] sz) [(qt, .inr (1, [.ref qb, .int (nI n), .ref qk, .ref qp, .ref qn, .ref qh, .ref ql])), (qb, .inl (cB, 2000, .inl fb)), (qk, .inl (cI, 1001, .inl u.1)), (qp, .inl (cI, 1001, .inl u.2.1)), (qn, .inl (cI, 1001, .inl u.2.2.1)), (qh, .inl (cL, 1001, .inr (.inl u.2.2.2.1))), (ql, .inl (cL, 1001, .inr (.inl u.2.2.2.2)))] t) (va_A [(qt, .inr (1, [.ref qb, .int (nI n), .ref qk, .ref qp, .ref qn, .ref qh, .ref ql])), (qb, .inl (cB, 2000, .inl fb)), (qk, .inl (cI, 1001, .inl fk)), (qp, .inl (cI, 1001, .inl fp)), (qn, .inl (cI, 1001, .inl fn)), (qh, .inl (cL, 1001, .inr (.inl fh))), (ql, .inl (cL, 1001, .inr (.inl fl)))] sz)) 0 0 (va_A [(qt, .inr (1, [.ref qb, .int (nI n), .ref qk, .ref qp, .ref qn, .ref qh, .ref ql])), (qb, .inl (cB, 2000, .inl fb)), (qk, .inl (cI, 1001, .inl fk)), (qp, .inl (cI, 1001, .inl fp)), (qn, .inl (cI, 1001, .inl fn)), (qh, .inl (cL, 1001, .inr (.inl fh))), (ql, .inl (cL, 1001, .inr (.inl fl)))] sz) := by
  refine Met.ofW (cc := b_Text_scan) (maxL := 3) (ret := none) (by decide) rfl ?_
  intro p e s m args below meth c s₁ B hml hv
  obtain ⟨rfl, hsz, hP, hK, hD0, hF⟩ := hv
  have hx := B.exec
  have hb := B.bytes
  have hr := B.returns
  have hts := atoms_spec (ws := w_Text_scan) B.pre
  have hts : ∀ w ∈ tb, w.before _ s = true := fun w h => hts w (List.mem_cons_of_mem _ h)
  have hown : s.vm.findClass R_Text = some m.cls := findClass_of_methodNamed B.named
  have hlocks := B.notSynchronized
  subst hsz
  have hD := hD0.self (sz := s.heap.size)
  generalize hAe : va_A [(qt, .inr (1, [.ref qb, .int (nI n), .ref qk, .ref qp, .ref qn, .ref qh, .ref ql])), (qb, .inl (cB, 2000, .inl fb)), (qk, .inl (cI, 1001, .inl fk)), (qp, .inl (cI, 1001, .inl fp)), (qn, .inl (cI, 1001, .inl fn)), (qh, .inl (cL, 1001, .inr (.inl fh))), (ql, .inl (cL, 1001, .inr (.inl fl)))] s.heap.size = A at hD hF ⊢
  have hA : ∀ q : Nat, s.heap.size ≤ q → A q := fun q h => by rw [← hAe]; exact Or.inr h
  have hS : va_S A s.heap s.heap [] := va_S.rf
  have hP : va_P (dC, dI) cl [(qt, .inr (1, [.ref qb, .int (nI n), .ref qk, .ref qp, .ref qn, .ref qh, .ref ql])), (qb, .inl (cB, 2000, .inl fb)), (qk, .inl (cI, 1001, .inl fk)), (qp, .inl (cI, 1001, .inl fp)), (qn, .inl (cI, 1001, .inl fn)), (qh, .inl (cL, 1001, .inr (.inl fh))), (ql, .inl (cL, 1001, .inr (.inl fl)))] s.heap := hP
  have hl := lv_entry ([.ref qt]) (n := 3) (Nat.le_of_ble_eq_true rfl)
  rw [lg_entry_eq]
  generalize (lg_sl ([.ref qt]) ++ List.replicate (3 - (lg_sl ([.ref qt])).length) Slot.unset).toArray = ls at hl ⊢
  have hl : lv_has ls 3 [(0, .ref qt)] := hl
  refine lv_iconst (v := nI 0) hx hb d_Text_scan_0 (by decide) ?_
  refine lv_istore_n (lv' := [(1, .int (nI 0)), (0, .ref qt)]) hx hb d_Text_scan_1 rfl hl (by decide) rfl (fun ls hl => ?_)
  refine lv_iconst (v := nI 0) hx hb d_Text_scan_2 (by decide) ?_
  refine lv_istore_n (lv' := [(2, .int (nI 0)), (1, .int (nI 0)), (0, .ref qt)]) hx hb d_Text_scan_3 rfl hl (by decide) rfl (fun ls hl => ?_)
  refine lp_Text_scan (F := tx_scan fb n 1001 0 0 (fk, fp, fn, fh, fl)) hn hx hb hml hown hts hA hF hK (fun H locs ls hP hD hS hl => ?_) (fun H locs ls hP hD hS hl => ?_) 1002 0 0 _ _ _ _ _ _ _ ls (by omega) (by omega) (by omega) rfl hP hD hS (lv_sub hl [0, 1, 2] rfl)
  · exact wr_v hx hb hr hlocks (tx_scan fb n 1001 0 0 (fk, fp, fn, fh, fl)) rfl hK hP hD hS d_Text_scan_50
  · exact wr_v hx hb hr hlocks (tx_scan fb n 1001 0 0 (fk, fp, fn, fh, fl)) rfl hK hP hD hS d_Text_scan_66
