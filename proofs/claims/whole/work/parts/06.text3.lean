theorem d_Text_clear_0 : decode b_Text_clear 0 = .ok (.aload_n 0, 1) := by decide +kernel
theorem d_Text_clear_1 : decode b_Text_clear 1 = .ok (.iconst 0, 1) := by decide +kernel
theorem d_Text_clear_2 : decode b_Text_clear 2 = .ok (.putfield 13, 3) := by decide +kernel
theorem d_Text_clear_5 : decode b_Text_clear 5 = .ok (.return_, 1) := by decide +kernel
set_option maxHeartbeats 4000000 in
set_option maxRecDepth 100000 in
/-- clear() -/
theorem c_Text_clear (l : Launch) (dC : Nat → ClassId) (dI : Nat → Nat → Nat) (cB cI cL cZ cC cO : ClassId) (qt qb qk qp qn qh ql : Nat) (n : Nat) (sz : Nat)  : Met l y_Text_clear w_Text_clear ({ frames := 0, cells := 0, slots := 0, locals := 0 }) (va_Pc [.ref qt] (wB (dC, dI) cl [(cB, .byte), (cI, .int), (cL, .long), (cZ, .boolean), (cC, .char), (cO, .object "java/lang/Object")] sz [(qt, .inr (1, [.ref qb, .int (nI n), .ref qk, .ref qp, .ref qn, .ref qh, .ref ql]))])) (va_Qv (fun (u : Unit) => True) (fun _ t => wA (dC, dI) cl [(cB, .byte), (cI, .int), (cL, .long), (cZ, .boolean), (cC, .char), (cO, .object "java/lang/Object")] (va_A [(qt, .inr (1, [.ref qb, .int (nI n), .ref qk, .ref qp, .ref qn, .ref qh, .ref ql]))] sz) [(qt, .inr (1, [.ref qb, .int (nI 0), .ref qk, .ref qp, .ref qn, .ref qh, .ref ql]))] t) (va_A [(qt, .inr (1, [.ref qb, .int (nI n), .ref qk, .ref qp, .ref qn, .ref qh, .ref ql]))] sz)) 0 0 (va_A [(qt, .inr (1, [.ref qb, .int (nI n), .ref qk, .ref qp, .ref qn, .ref qh, .ref ql]))] sz) := by
  refine Met.ofW (cc := b_Text_clear) (maxL := 1) (ret := none) (by decide) rfl ?_
  intro p e s m args below meth c s₁ B hml hv
  obtain ⟨rfl, hsz, hP, hK, hD0, hF⟩ := hv
  have hx := B.exec
  have hb := B.bytes
  have hr := B.returns
  have hts := atoms_spec (ws := w_Text_clear) B.pre
  have hts : ∀ w ∈ tb, w.before _ s = true := fun w h => hts w (List.mem_cons_of_mem _ h)
  have hown : s.vm.findClass R_Text = some m.cls := findClass_of_methodNamed B.named
  have hlocks := B.notSynchronized
  subst hsz
  have hD := hD0.self (sz := s.heap.size)
  generalize hAe : va_A [(qt, .inr (1, [.ref qb, .int (nI n), .ref qk, .ref qp, .ref qn, .ref qh, .ref ql]))] s.heap.size = A at hD hF ⊢
  have hA : ∀ q : Nat, s.heap.size ≤ q → A q := fun q h => by rw [← hAe]; exact Or.inr h
  have hS : va_S A s.heap s.heap [] := va_S.rf
  have hP : va_P (dC, dI) cl [(qt, .inr (1, [.ref qb, .int (nI n), .ref qk, .ref qp, .ref qn, .ref qh, .ref ql]))] s.heap := hP
  have hl := lv_entry ([.ref qt]) (n := 1) (Nat.le_of_ble_eq_true rfl)
  rw [lg_entry_eq]
  generalize (lg_sl ([.ref qt]) ++ List.replicate (1 - (lg_sl ([.ref qt])).length) Slot.unset).toArray = ls at hl ⊢
  have hl : lv_has ls 1 [(0, .ref qt)] := hl
  refine lv_aload_n hx hb d_Text_clear_0 rfl (lv_at hl 0 rfl) ?_
  refine lv_iconst (v := nI 0) hx hb d_Text_clear_1 (by decide) ?_
  refine va_put (D := (dC, dI)) (ci := 1) (v := .int (nI 0)) (ty := .int) (C := R_Text) (T := F_Text) (N := 7) hx hb hts i_Text t_Text t_Text_ok n_Text hown hK hP hD hS 0 rfl rfl 1 (by decide) (hts _ k_38) (fun _ h9 => h9) rfl (by decide +kernel) rfl rfl (Nat.le_of_ble_eq_true rfl) d_Text_clear_2 (fun H locs hP hD hS => ?_)
  have hP : va_P (dC, dI) cl [(qt, .inr (1, [.ref qb, .int (nI 0), .ref qk, .ref qp, .ref qn, .ref qh, .ref ql]))] H := hP
  have hD : va_D A [(qt, .inr (1, [.ref qb, .int (nI 0), .ref qk, .ref qp, .ref qn, .ref qh, .ref ql]))] := hD
  exact wr_v hx hb hr hlocks () trivial hK hP hD hS d_Text_clear_5
def tx_byte (v : Int64) (i : Nat) : Int32 := vp_nar .byte ((v.toUInt64 >>> ((nI (8 * i)).toInt64.toUInt64 &&& Int64.toUInt64 63)).toInt64.toInt32.toInt8.toInt32)
def tx_app (v : Int64) : Nat → (Nat → Int32) → Nat → (Nat → Int32)
  | 0, b, _ => b
  | i + 1, b, n => tx_app v i (upd b n (tx_byte v i)) (n + 1)
def tx_ok (n : Nat) (x : Int32) : Bool := !decide (x < nI 1) && (!decide (nI 8 < x) && decide (nI n + x ≤ nI 2000))
def tx_put (b : Nat → Int32) (n : Nat) (v : Int64) (x : Int32) : (Nat → Int32) × Nat := if tx_ok n x = true then (tx_app v x.toNatClampNeg b n, n + x.toNatClampNeg) else (b, n)
theorem tx_small {x : Int32} (h1 : ¬ x < nI 1) (h2 : ¬ nI 8 < x) : ∃ j : Nat, 1 ≤ j ∧ j ≤ 8 ∧ x = nI j := by
  obtain ⟨j, hj, rfl⟩ := nI_of2 (x := x) (M := nI 8) (n := 8) rfl (fun q => h1 (by
    rw [Int32.lt_iff_toInt_lt] at q ⊢
    have e1 : (nI 1).toInt = 1 := rfl
    have e0 : (0 : Int32).toInt = 0 := rfl
    omega)) (by rw [Int32.le_iff_toInt_le]; rw [Int32.lt_iff_toInt_lt] at h2; omega)
  refine ⟨j, ?_, hj, rfl⟩
  rcases Nat.eq_zero_or_pos j with rfl | h
  · exact absurd (by decide) h1
  · exact h
theorem tx_m1 {y : Int32} {i : Nat} (hy : y = nI i + (-1)) (hi : i ≤ 8) (h : y < 0) : i = 0 := by
  cases i with
  | zero => rfl
  | succ i => rw [pk_m1] at hy; subst hy; exact absurd h (nI_pos (by omega))
theorem tx_m2 {y : Int32} {i : Nat} (hy : y = nI i + (-1)) (h : ¬ y < 0) : ∃ i', i = i' + 1 ∧ y = nI i' := by
  cases i with
  | zero => subst hy; exact absurd (by decide) h
  | succ i => exact ⟨i, rfl, by rw [hy, pk_m1]⟩
theorem d_Text_append_0 : decode b_Text_append 0 = .ok (.iload_n 3, 1) := by decide +kernel
theorem d_Text_append_1 : decode b_Text_append 1 = .ok (.iconst 1, 1) := by decide +kernel
theorem d_Text_append_2 : decode b_Text_append 2 = .ok (.if_icmp .lt 21, 3) := by decide +kernel
theorem d_Text_append_5 : decode b_Text_append 5 = .ok (.iload_n 3, 1) := by decide +kernel
theorem d_Text_append_6 : decode b_Text_append 6 = .ok (.bipush 8, 2) := by decide +kernel
theorem d_Text_append_8 : decode b_Text_append 8 = .ok (.if_icmp .gt 15, 3) := by decide +kernel
theorem d_Text_append_11 : decode b_Text_append 11 = .ok (.aload_n 0, 1) := by decide +kernel
theorem d_Text_append_12 : decode b_Text_append 12 = .ok (.getfield 13, 3) := by decide +kernel
theorem d_Text_append_15 : decode b_Text_append 15 = .ok (.iload_n 3, 1) := by decide +kernel
theorem d_Text_append_16 : decode b_Text_append 16 = .ok (.iadd, 1) := by decide +kernel
theorem d_Text_append_17 : decode b_Text_append 17 = .ok (.sipush 2000, 3) := by decide +kernel
theorem d_Text_append_20 : decode b_Text_append 20 = .ok (.if_icmp .le 5, 3) := by decide +kernel
theorem d_Text_append_23 : decode b_Text_append 23 = .ok (.iconst 0, 1) := by decide +kernel
theorem d_Text_append_24 : decode b_Text_append 24 = .ok (.ireturn, 1) := by decide +kernel
theorem d_Text_append_25 : decode b_Text_append 25 = .ok (.iload_n 3, 1) := by decide +kernel
theorem d_Text_append_26 : decode b_Text_append 26 = .ok (.iconst 1, 1) := by decide +kernel
theorem d_Text_append_27 : decode b_Text_append 27 = .ok (.isub, 1) := by decide +kernel
theorem d_Text_append_28 : decode b_Text_append 28 = .ok (.istore 4, 2) := by decide +kernel
theorem d_Text_append_30 : decode b_Text_append 30 = .ok (.iload 4, 2) := by decide +kernel
theorem d_Text_append_32 : decode b_Text_append 32 = .ok (.ifCond .lt 37, 3) := by decide +kernel
theorem d_Text_append_35 : decode b_Text_append 35 = .ok (.aload_n 0, 1) := by decide +kernel
theorem d_Text_append_36 : decode b_Text_append 36 = .ok (.getfield 9, 3) := by decide +kernel
theorem d_Text_append_39 : decode b_Text_append 39 = .ok (.aload_n 0, 1) := by decide +kernel
theorem d_Text_append_40 : decode b_Text_append 40 = .ok (.getfield 13, 3) := by decide +kernel
theorem d_Text_append_43 : decode b_Text_append 43 = .ok (.lload_n 1, 1) := by decide +kernel
theorem d_Text_append_44 : decode b_Text_append 44 = .ok (.bipush 8, 2) := by decide +kernel
theorem d_Text_append_46 : decode b_Text_append 46 = .ok (.iload 4, 2) := by decide +kernel
theorem d_Text_append_48 : decode b_Text_append 48 = .ok (.imul, 1) := by decide +kernel
theorem d_Text_append_49 : decode b_Text_append 49 = .ok (.lushr, 1) := by decide +kernel
theorem d_Text_append_50 : decode b_Text_append 50 = .ok (.l2i, 1) := by decide +kernel
theorem d_Text_append_51 : decode b_Text_append 51 = .ok (.i2b, 1) := by decide +kernel
theorem d_Text_append_52 : decode b_Text_append 52 = .ok (.bastore, 1) := by decide +kernel
theorem d_Text_append_53 : decode b_Text_append 53 = .ok (.aload_n 0, 1) := by decide +kernel
theorem d_Text_append_54 : decode b_Text_append 54 = .ok (.dup, 1) := by decide +kernel
theorem d_Text_append_55 : decode b_Text_append 55 = .ok (.getfield 13, 3) := by decide +kernel
theorem d_Text_append_58 : decode b_Text_append 58 = .ok (.iconst 1, 1) := by decide +kernel
theorem d_Text_append_59 : decode b_Text_append 59 = .ok (.iadd, 1) := by decide +kernel
theorem d_Text_append_60 : decode b_Text_append 60 = .ok (.putfield 13, 3) := by decide +kernel
theorem d_Text_append_63 : decode b_Text_append 63 = .ok (.iinc 4 (-1), 3) := by decide +kernel
theorem d_Text_append_66 : decode b_Text_append 66 = .ok (.goto (-36), 3) := by decide +kernel
theorem d_Text_append_69 : decode b_Text_append 69 = .ok (.iconst 1, 1) := by decide +kernel
theorem d_Text_append_70 : decode b_Text_append 70 = .ok (.ireturn, 1) := by decide +kernel
set_option maxHeartbeats 4000000 in
set_option maxRecDepth 100000 in
theorem lp_Text_append {p : Program} {l : Launch} {e : Env} {s : State} {m : MethodId} {args : Array Value} {below : List Frame} {meth : Method} {c : Code} {Q : State → Prop} {A : Nat → Prop} {dC : Nat → ClassId} {dI : Nat → Nat → Nat} {cB cI cL cZ cC cO : ClassId} {qt qb qk qp qn qh ql : Nat} {v : Int64} {x : Int32} {bF : Nat → Int32} {nF : Nat} (hnF : nF ≤ 2000) (hx : p.tables.exec = Jvm.exec) (hb : c.code = b_Text_append) (hml : c.maxLocals = 5) (hown : s.vm.findClass R_Text = some m.cls) (hts : ∀ w ∈ tb, w.before args s = true) (hA : ∀ q, s.heap.size ≤ q → A q) (hF : stF A s) (hK : va_K (dC, dI) cl [(cB, .byte), (cI, .int), (cL, .long), (cZ, .boolean), (cC, .char), (cO, .object "java/lang/Object")] s)
    (kx : ∀  (H : Heap) (locs : List Loc) (ls : Array Slot), va_P (dC, dI) cl [(qt, .inr (1, [.ref qb, .int (nI nF), .ref qk, .ref qp, .ref qn, .ref qh, .ref ql])), (qb, .inl (cB, 2000, .inl bF))] H → va_D A [(qt, .inr (1, [.ref qb, .int (nI nF), .ref qk, .ref qp, .ref qn, .ref qh, .ref ql])), (qb, .inl (cB, 2000, .inl bF))] → va_S A s.heap H locs → lv_has ls 5 [(0, .ref qt), (1, .long v), (3, .int x)] → W p l e (headSpec w_Text_append { frames := 0, cells := 0, slots := 0, locals := 0 }).room s m args below meth c H locs 0 0 Q (F0 m 69 ls [])) :
    ∀ (k : Nat) (i : Nat) (y : Int32) (b1 : Nat → Int32) (n1 : Nat) (H : Heap) (locs : List Loc) (ls : Array Slot), i < k → i ≤ 8 → y = nI i + (-1) → tx_app v i b1 n1 = bF → n1 + i = nF → va_P (dC, dI) cl [(qt, .inr (1, [.ref qb, .int (nI n1), .ref qk, .ref qp, .ref qn, .ref qh, .ref ql])), (qb, .inl (cB, 2000, .inl b1))] H → va_D A [(qt, .inr (1, [.ref qb, .int (nI n1), .ref qk, .ref qp, .ref qn, .ref qh, .ref ql])), (qb, .inl (cB, 2000, .inl b1))] → va_S A s.heap H locs → lv_has ls 5 [(4, .int y), (0, .ref qt), (1, .long v), (3, .int x)] → W p l e (headSpec w_Text_append { frames := 0, cells := 0, slots := 0, locals := 0 }).room s m args below meth c H locs 0 0 Q (F0 m 30 ls []) := by
  intro k
  induction k with
  | zero =>
    intro i y b1 n1 H locs ls hk hi hy hF1 hN hP hD hS hl
    exfalso; omega
  | succ k ih =>
    intro i y b1 n1 H locs ls hk hi hy hF1 hN hP hD hS hl
    refine lv_iload hx hb d_Text_append_30 (lv_at hl 0 rfl) ?_
    refine lv_if_lt (tgt := 69) hx hb d_Text_append_32 (by decide) (fun c_1 => ?_) (fun c_1 => ?_)
    · have hi0 : i = 0 := tx_m1 hy hi c_1
      subst hi0
      have hb1 : b1 = bF := hF1
      have hn1 : n1 = nF := hN
      subst hb1 hn1
      exact kx H locs ls hP hD hS (lv_sub hl [1, 2, 3] rfl)
    · obtain ⟨i1, rfl, rfl⟩ := tx_m2 hy c_1
      refine lv_aload_n hx hb d_Text_append_35 rfl (lv_at hl 1 rfl) ?_
      refine va_get (D := (dC, dI)) (ci := 1) (v := .ref qb) (C := R_Text) (T := F_Text) (N := 7) hx hb hts i_Text hown hK hP 0 rfl rfl 0 (by decide) (hts _ k_37) (fun _ h9 => h9) rfl d_Text_append_36 ?_
      refine lv_aload_n hx hb d_Text_append_39 rfl (lv_at hl 1 rfl) ?_
      refine va_get (D := (dC, dI)) (ci := 1) (v := .int (nI n1)) (C := R_Text) (T := F_Text) (N := 7) hx hb hts i_Text hown hK hP 0 rfl rfl 1 (by decide) (hts _ k_38) (fun _ h9 => h9) rfl d_Text_append_40 ?_
      refine lv_lload_n hx hb d_Text_append_43 rfl (lv_at hl 2 rfl) ?_
      refine lv_bipush (v := nI 8) hx hb d_Text_append_44 (by decide) ?_
      refine lv_iload hx hb d_Text_append_46 (lv_at hl 0 rfl) ?_
      refine nv_imul hx hb d_Text_append_48 ?_
      refine lv_lushr (v := (v.toUInt64 >>> ((nI (8 * i1)).toInt64.toUInt64 &&& Int64.toUInt64 63)).toInt64) hx hb d_Text_append_49 rfl ?_
      refine lv_l2i (v := ((v.toUInt64 >>> ((nI (8 * i1)).toInt64.toUInt64 &&& Int64.toUInt64 63)).toInt64).toInt32) hx hb d_Text_append_50 rfl ?_
      refine lv_i2b (v := (((v.toUInt64 >>> ((nI (8 * i1)).toInt64.toUInt64 &&& Int64.toUInt64 63)).toInt64).toInt32).toInt8.toInt32) hx hb d_Text_append_51 rfl ?_
      refine nv_bast hx hb hK hP hD hS 1 0 rfl rfl (by omega) (by decide) d_Text_append_52 (fun H locs hP hD hS => ?_)
      have hP : va_P (dC, dI) cl [(qt, .inr (1, [.ref qb, .int (nI n1), .ref qk, .ref qp, .ref qn, .ref qh, .ref ql])), (qb, .inl (cB, 2000, .inl (upd b1 n1 (vp_nar .byte ((((v.toUInt64 >>> ((nI (8 * i1)).toInt64.toUInt64 &&& Int64.toUInt64 63)).toInt64).toInt32).toInt8.toInt32)))))] H := hP
      have hD : va_D A [(qt, .inr (1, [.ref qb, .int (nI n1), .ref qk, .ref qp, .ref qn, .ref qh, .ref ql])), (qb, .inl (cB, 2000, .inl (upd b1 n1 (vp_nar .byte ((((v.toUInt64 >>> ((nI (8 * i1)).toInt64.toUInt64 &&& Int64.toUInt64 63)).toInt64).toInt32).toInt8.toInt32)))))] := hD
      refine lv_aload_n hx hb d_Text_append_53 rfl (lv_at hl 1 rfl) ?_
      refine lv_dup hx hb d_Text_append_54 rfl ?_
      refine va_get (D := (dC, dI)) (ci := 1) (v := .int (nI n1)) (C := R_Text) (T := F_Text) (N := 7) hx hb hts i_Text hown hK hP 0 rfl rfl 1 (by decide) (hts _ k_38) (fun _ h9 => h9) rfl d_Text_append_55 ?_
      refine lv_iconst (v := nI 1) hx hb d_Text_append_58 (by decide) ?_
      refine nv_iadd hx hb d_Text_append_59 ?_
      refine va_put (D := (dC, dI)) (ci := 1) (v := .int (nI (n1 + 1))) (ty := .int) (C := R_Text) (T := F_Text) (N := 7) hx hb hts i_Text t_Text t_Text_ok n_Text hown hK hP hD hS 0 rfl rfl 1 (by decide) (hts _ k_38) (fun _ h9 => h9) rfl (by decide +kernel) rfl rfl (Nat.le_of_ble_eq_true rfl) d_Text_append_60 (fun H locs hP hD hS => ?_)
      have hP : va_P (dC, dI) cl [(qt, .inr (1, [.ref qb, .int (nI (n1 + 1)), .ref qk, .ref qp, .ref qn, .ref qh, .ref ql])), (qb, .inl (cB, 2000, .inl (upd b1 n1 (vp_nar .byte ((((v.toUInt64 >>> ((nI (8 * i1)).toInt64.toUInt64 &&& Int64.toUInt64 63)).toInt64).toInt32).toInt8.toInt32)))))] H := hP
      have hD : va_D A [(qt, .inr (1, [.ref qb, .int (nI (n1 + 1)), .ref qk, .ref qp, .ref qn, .ref qh, .ref ql])), (qb, .inl (cB, 2000, .inl (upd b1 n1 (vp_nar .byte ((((v.toUInt64 >>> ((nI (8 * i1)).toInt64.toUInt64 &&& Int64.toUInt64 63)).toInt64).toInt32).toInt8.toInt32)))))] := hD
      refine lv_iinc (v := nI i1 + (-1)) (lv' := [(4, .int (nI i1 + (-1))), (0, .ref qt), (1, .long v), (3, .int x)]) hx hb d_Text_append_63 hl (k := 0) rfl rfl (by decide) rfl (fun ls hl => ?_)
      refine lv_goto (tgt := 30) hx hb d_Text_append_66 (by decide) ?_
      exact ih i1 (nI i1 + (-1)) (upd b1 n1 (tx_byte v i1)) (n1 + 1) H locs ls (by omega) (by omega) rfl hF1 (by omega) hP hD hS (lv_sub hl [0, 1, 2, 3] rfl)
set_option maxHeartbeats 4000000 in
set_option maxRecDepth 100000 in
/-- append(v, x) -/
theorem c_Text_append (l : Launch) (dC : Nat → ClassId) (dI : Nat → Nat → Nat) (cB cI cL cZ cC cO : ClassId) (qt qb qk qp qn qh ql : Nat) (fb : Nat → Int32) (n : Nat) (v : Int64) (x : Int32) (sz : Nat) (hn : n ≤ 2000) : Met l y_Text_append w_Text_append ({ frames := 0, cells := 0, slots := 0, locals := 0 }) (va_Pc [.ref qt, .long v, .int x] (wB (dC, dI) cl [(cB, .byte), (cI, .int), (cL, .long), (cZ, .boolean), (cC, .char), (cO, .object "java/lang/Object")] sz [(qt, .inr (1, [.ref qb, .int (nI n), .ref qk, .ref qp, .ref qn, .ref qh, .ref ql])), (qb, .inl (cB, 2000, .inl fb))])) (va_Qi (fun (r : Int32) (u : (Nat → Int32) × Nat) => r = bI (tx_ok n x) ∧ u = tx_put fb n v x) (fun u t => wA (dC, dI) cl [(cB, .byte), (cI, .int), (cL, .long), (cZ, .boolean), (cC, .char), (cO, .object "java/lang/Object")] (va_A [(qt, .inr (1, [.ref qb, .int (nI n), .ref qk, .ref qp, .ref qn, .ref qh, .ref ql])), (qb, .inl (cB, 2000, .inl fb))] sz) [(qt, .inr (1, [.ref qb, .int (nI u.2), .ref qk, .ref qp, .ref qn, .ref qh, .ref ql])), (qb, .inl (cB, 2000, .inl u.1))] t) (va_A [(qt, .inr (1, [.ref qb, .int (nI n), .ref qk, .ref qp, .ref qn, .ref qh, .ref ql])), (qb, .inl (cB, 2000, .inl fb))] sz)) 0 0 (va_A [(qt, .inr (1, [.ref qb, .int (nI n), .ref qk, .ref qp, .ref qn, .ref qh, .ref ql])), (qb, .inl (cB, 2000, .inl fb))] sz) := by
  refine Met.ofW (cc := b_Text_append) (maxL := 5) (ret := (some ClassFile.FieldType.boolean)) (by decide) rfl ?_
  intro p e s m args below meth c s₁ B hml hv
  obtain ⟨rfl, hsz, hP, hK, hD0, hF⟩ := hv
  have hx := B.exec
  have hb := B.bytes
  have hr := B.returns
  have hts := atoms_spec (ws := w_Text_append) B.pre
  have hts : ∀ w ∈ tb, w.before _ s = true := fun w h => hts w (List.mem_cons_of_mem _ h)
  have hown : s.vm.findClass R_Text = some m.cls := findClass_of_methodNamed B.named
  have hlocks := B.notSynchronized
  subst hsz
  have hD := hD0.self (sz := s.heap.size)
  generalize hAe : va_A [(qt, .inr (1, [.ref qb, .int (nI n), .ref qk, .ref qp, .ref qn, .ref qh, .ref ql])), (qb, .inl (cB, 2000, .inl fb))] s.heap.size = A at hD hF ⊢
  have hA : ∀ q : Nat, s.heap.size ≤ q → A q := fun q h => by rw [← hAe]; exact Or.inr h
  have hS : va_S A s.heap s.heap [] := va_S.rf
  have hP : va_P (dC, dI) cl [(qt, .inr (1, [.ref qb, .int (nI n), .ref qk, .ref qp, .ref qn, .ref qh, .ref ql])), (qb, .inl (cB, 2000, .inl fb))] s.heap := hP
  have hl := lv_entry ([.ref qt, .long v, .int x]) (n := 5) (Nat.le_of_ble_eq_true rfl)
  rw [lg_entry_eq]
  generalize (lg_sl ([.ref qt, .long v, .int x]) ++ List.replicate (5 - (lg_sl ([.ref qt, .long v, .int x])).length) Slot.unset).toArray = ls at hl ⊢
  have hl : lv_has ls 5 [(0, .ref qt), (1, .long v), (3, .int x)] := hl
  refine lv_iload_n hx hb d_Text_append_0 rfl (lv_at hl 2 rfl) ?_
  refine lv_iconst (v := nI 1) hx hb d_Text_append_1 (by decide) ?_
  refine lv_icmp_lt (tgt := 23) hx hb d_Text_append_2 (by decide) (fun c_1 => ?_) (fun c_1 => ?_)
  · refine lv_iconst (v := nI 0) hx hb d_Text_append_23 (by decide) ?_
    have hok : tx_ok n x = false := by simp [tx_ok, c_1]
    exact wr_z (x := false) hx hb hr hlocks (fb, n) ⟨congrArg bI hok.symm, by unfold tx_put; rw [if_neg (by rw [hok]; decide)]⟩ hK hP hD hS d_Text_append_24
  · refine lv_iload_n hx hb d_Text_append_5 rfl (lv_at hl 2 rfl) ?_
    refine lv_bipush (v := nI 8) hx hb d_Text_append_6 (by decide) ?_
    refine lv_icmp_gt (tgt := 23) hx hb d_Text_append_8 (by decide) (fun c_2 => ?_) (fun c_2 => ?_)
    · refine lv_iconst (v := nI 0) hx hb d_Text_append_23 (by decide) ?_
      have hok : tx_ok n x = false := by simp [tx_ok, c_1, c_2]
      exact wr_z (x := false) hx hb hr hlocks (fb, n) ⟨congrArg bI hok.symm, by unfold tx_put; rw [if_neg (by rw [hok]; decide)]⟩ hK hP hD hS d_Text_append_24
    · refine lv_aload_n hx hb d_Text_append_11 rfl (lv_at hl 0 rfl) ?_
      refine va_get (D := (dC, dI)) (ci := 1) (v := .int (nI n)) (C := R_Text) (T := F_Text) (N := 7) hx hb hts i_Text hown hK hP 0 rfl rfl 1 (by decide) (hts _ k_38) (fun _ h9 => h9) rfl d_Text_append_12 ?_
      refine lv_iload_n hx hb d_Text_append_15 rfl (lv_at hl 2 rfl) ?_
      refine lv_iadd hx hb d_Text_append_16 ?_
      refine lv_sipush (v := nI 2000) hx hb d_Text_append_17 (by decide) ?_
      refine lv_icmp_le (tgt := 25) hx hb d_Text_append_20 (by decide) (fun c_3 => ?_) (fun c_3 => ?_)
      · have hok : tx_ok n x = true := by simp [tx_ok, c_1, c_2, c_3]
        obtain ⟨j, hj1, hj2, rfl⟩ := tx_small c_1 c_2
        have hj3 : n + j ≤ 2000 := by have q := c_3; rw [nI_add] at q; exact (nI_leI (by omega) (by omega)).mp q
        refine lv_iload_n hx hb d_Text_append_25 rfl (lv_at hl 2 rfl) ?_
        refine lv_iconst (v := nI 1) hx hb d_Text_append_26 (by decide) ?_
        refine nv_isub hx hb (by omega) d_Text_append_27 ?_
        refine lv_istore (lv' := [(4, .int (nI (j - 1))), (0, .ref qt), (1, .long v), (3, .int (nI j))]) hx hb d_Text_append_28 hl (by decide) rfl (fun ls hl => ?_)
        refine lp_Text_append (x := nI j) (bF := tx_app v j fb n) (nF := n + j) hj3 hx hb hml hown hts hA hF hK (fun H locs ls hP hD hS hl => ?_) (j + 1) j _ fb n _ _ ls (by omega) hj2 (by rw [← pk_m1 (j - 1), show j - 1 + 1 = j by omega]) rfl rfl hP hD hS (lv_sub hl [0, 1, 2, 3] rfl)
        refine lv_iconst (v := nI 1) hx hb d_Text_append_69 (by decide) ?_
        exact wr_z (x := true) hx hb hr hlocks (tx_app v j fb n, n + j) ⟨congrArg bI hok.symm, by unfold tx_put; rw [if_pos hok, nI_clamp (by omega)]⟩ hK hP hD hS d_Text_append_70
      · refine lv_iconst (v := nI 0) hx hb d_Text_append_23 (by decide) ?_
        have hok : tx_ok n x = false := by simp [tx_ok, c_1, c_2, c_3]
        exact wr_z (x := false) hx hb hr hlocks (fb, n) ⟨congrArg bI hok.symm, by unfold tx_put; rw [if_neg (by rw [hok]; decide)]⟩ hK hP hD hS d_Text_append_24
def tx_sign (c : Int32) : Bool := decide (c = nI 40) || (decide (c = nI 41) || (decide (c = nI 44) || (decide (c = nI 58) || (decide (c = nI 59) || (decide (c = nI 61) || (decide (c = nI 91) || (decide (c = nI 93) || (decide (c = nI 123) || (decide (c = nI 125))))))))))
theorem d_Text_isSign_0 : decode b_Text_isSign 0 = .ok (.iload_n 0, 1) := by decide +kernel
theorem d_Text_isSign_1 : decode b_Text_isSign 1 = .ok (.lookupswitch 93 #[(40, 91), (41, 91), (44, 91), (58, 91), (59, 91), (61, 91), (91, 91), (93, 91), (123, 91), (125, 91)], 91) := by decide +kernel
theorem d_Text_isSign_92 : decode b_Text_isSign 92 = .ok (.iconst 1, 1) := by decide +kernel
theorem d_Text_isSign_93 : decode b_Text_isSign 93 = .ok (.ireturn, 1) := by decide +kernel
theorem d_Text_isSign_94 : decode b_Text_isSign 94 = .ok (.iconst 0, 1) := by decide +kernel
theorem d_Text_isSign_95 : decode b_Text_isSign 95 = .ok (.ireturn, 1) := by decide +kernel
set_option maxHeartbeats 4000000 in
set_option maxRecDepth 100000 in
/-- isSign -/
theorem c_Text_isSign (l : Launch) (dC : Nat → ClassId) (dI : Nat → Nat → Nat) (cB cI cL cZ cC cO : ClassId) (ch : Int32) (sz : Nat)  : Met l y_Text_isSign w_Text_isSign ({ frames := 0, cells := 0, slots := 0, locals := 0 }) (va_Pc [.int ch] (wB (dC, dI) cl [(cB, .byte), (cI, .int), (cL, .long), (cZ, .boolean), (cC, .char), (cO, .object "java/lang/Object")] sz [])) (va_Qi (fun (r : Int32) (u : Unit) => r = bI (tx_sign ch)) (fun _ t => wA (dC, dI) cl [(cB, .byte), (cI, .int), (cL, .long), (cZ, .boolean), (cC, .char), (cO, .object "java/lang/Object")] (va_A [] sz) [] t) (va_A [] sz)) 0 0 (va_A [] sz) := by
  refine Met.ofW (cc := b_Text_isSign) (maxL := 1) (ret := (some ClassFile.FieldType.boolean)) (by decide) rfl ?_
  intro p e s m args below meth c s₁ B hml hv
  obtain ⟨rfl, hsz, hP, hK, hD0, hF⟩ := hv
  have hx := B.exec
  have hb := B.bytes
  have hr := B.returns
  have hts := atoms_spec (ws := w_Text_isSign) B.pre
  have hts : ∀ w ∈ tb, w.before _ s = true := fun w h => hts w (List.mem_cons_of_mem _ h)
  have hown : s.vm.findClass R_Text = some m.cls := findClass_of_methodNamed B.named
  have hlocks := B.notSynchronized
  subst hsz
  have hD := hD0.self (sz := s.heap.size)
  generalize hAe : va_A [] s.heap.size = A at hD hF ⊢
  have hA : ∀ q : Nat, s.heap.size ≤ q → A q := fun q h => by rw [← hAe]; exact Or.inr h
  have hS : va_S A s.heap s.heap [] := va_S.rf
  have hP : va_P (dC, dI) cl [] s.heap := hP
  have hl := lv_entry ([.int ch]) (n := 1) (Nat.le_of_ble_eq_true rfl)
  rw [lg_entry_eq]
  generalize (lg_sl ([.int ch]) ++ List.replicate (1 - (lg_sl ([.int ch])).length) Slot.unset).toArray = ls at hl ⊢
  have hl : lv_has ls 1 [(0, .int ch)] := hl
  refine lv_iload_n hx hb d_Text_isSign_0 rfl (lv_at hl 0 rfl) ?_
  by_cases s_1 : ch = nI 40
  · refine lv_lookup (off := 91) (tgt := 92) hx hb d_Text_isSign_1 (by decide) (by rw [s_1]; decide) (by decide) ?_
    refine lv_iconst (v := nI 1) hx hb d_Text_isSign_92 (by decide) ?_
    exact wr_z (x := true) hx hb hr hlocks () (congrArg bI (by simp (decide := true) [tx_sign, s_1])) hK hP hD hS d_Text_isSign_93
  by_cases s_2 : ch = nI 41
  · refine lv_lookup (off := 91) (tgt := 92) hx hb d_Text_isSign_1 (by decide) (by rw [s_2]; decide) (by decide) ?_
    refine lv_iconst (v := nI 1) hx hb d_Text_isSign_92 (by decide) ?_
    exact wr_z (x := true) hx hb hr hlocks () (congrArg bI (by simp (decide := true) [tx_sign, s_1, s_2])) hK hP hD hS d_Text_isSign_93
  by_cases s_3 : ch = nI 44
  · refine lv_lookup (off := 91) (tgt := 92) hx hb d_Text_isSign_1 (by decide) (by rw [s_3]; decide) (by decide) ?_
    refine lv_iconst (v := nI 1) hx hb d_Text_isSign_92 (by decide) ?_
    exact wr_z (x := true) hx hb hr hlocks () (congrArg bI (by simp (decide := true) [tx_sign, s_1, s_2, s_3])) hK hP hD hS d_Text_isSign_93
  by_cases s_4 : ch = nI 58
  · refine lv_lookup (off := 91) (tgt := 92) hx hb d_Text_isSign_1 (by decide) (by rw [s_4]; decide) (by decide) ?_
    refine lv_iconst (v := nI 1) hx hb d_Text_isSign_92 (by decide) ?_
    exact wr_z (x := true) hx hb hr hlocks () (congrArg bI (by simp (decide := true) [tx_sign, s_1, s_2, s_3, s_4])) hK hP hD hS d_Text_isSign_93
  by_cases s_5 : ch = nI 59
  · refine lv_lookup (off := 91) (tgt := 92) hx hb d_Text_isSign_1 (by decide) (by rw [s_5]; decide) (by decide) ?_
    refine lv_iconst (v := nI 1) hx hb d_Text_isSign_92 (by decide) ?_
    exact wr_z (x := true) hx hb hr hlocks () (congrArg bI (by simp (decide := true) [tx_sign, s_1, s_2, s_3, s_4, s_5])) hK hP hD hS d_Text_isSign_93
  by_cases s_6 : ch = nI 61
  · refine lv_lookup (off := 91) (tgt := 92) hx hb d_Text_isSign_1 (by decide) (by rw [s_6]; decide) (by decide) ?_
    refine lv_iconst (v := nI 1) hx hb d_Text_isSign_92 (by decide) ?_
    exact wr_z (x := true) hx hb hr hlocks () (congrArg bI (by simp (decide := true) [tx_sign, s_1, s_2, s_3, s_4, s_5, s_6])) hK hP hD hS d_Text_isSign_93
  by_cases s_7 : ch = nI 91
  · refine lv_lookup (off := 91) (tgt := 92) hx hb d_Text_isSign_1 (by decide) (by rw [s_7]; decide) (by decide) ?_
    refine lv_iconst (v := nI 1) hx hb d_Text_isSign_92 (by decide) ?_
    exact wr_z (x := true) hx hb hr hlocks () (congrArg bI (by simp (decide := true) [tx_sign, s_1, s_2, s_3, s_4, s_5, s_6, s_7])) hK hP hD hS d_Text_isSign_93
  by_cases s_8 : ch = nI 93
  · refine lv_lookup (off := 91) (tgt := 92) hx hb d_Text_isSign_1 (by decide) (by rw [s_8]; decide) (by decide) ?_
    refine lv_iconst (v := nI 1) hx hb d_Text_isSign_92 (by decide) ?_
    exact wr_z (x := true) hx hb hr hlocks () (congrArg bI (by simp (decide := true) [tx_sign, s_1, s_2, s_3, s_4, s_5, s_6, s_7, s_8])) hK hP hD hS d_Text_isSign_93
  by_cases s_9 : ch = nI 123
  · refine lv_lookup (off := 91) (tgt := 92) hx hb d_Text_isSign_1 (by decide) (by rw [s_9]; decide) (by decide) ?_
    refine lv_iconst (v := nI 1) hx hb d_Text_isSign_92 (by decide) ?_
    exact wr_z (x := true) hx hb hr hlocks () (congrArg bI (by simp (decide := true) [tx_sign, s_1, s_2, s_3, s_4, s_5, s_6, s_7, s_8, s_9])) hK hP hD hS d_Text_isSign_93
  by_cases s_10 : ch = nI 125
  · refine lv_lookup (off := 91) (tgt := 92) hx hb d_Text_isSign_1 (by decide) (by rw [s_10]; decide) (by decide) ?_
    refine lv_iconst (v := nI 1) hx hb d_Text_isSign_92 (by decide) ?_
    exact wr_z (x := true) hx hb hr hlocks () (congrArg bI (by simp (decide := true) [tx_sign, s_1, s_2, s_3, s_4, s_5, s_6, s_7, s_8, s_9, s_10])) hK hP hD hS d_Text_isSign_93
  refine lv_lookup (off := 93) (tgt := 94) hx hb d_Text_isSign_1 (by decide) (by show Op.lookupswitch.offset [(40, 91), (41, 91), (44, 91), (58, 91), (59, 91), (61, 91), (91, 91), (93, 91), (123, 91), (125, 91)] _ _ = _; rw [lv_osw (a := 40) s_1 (by decide), lv_osw (a := 41) s_2 (by decide), lv_osw (a := 44) s_3 (by decide), lv_osw (a := 58) s_4 (by decide), lv_osw (a := 59) s_5 (by decide), lv_osw (a := 61) s_6 (by decide), lv_osw (a := 91) s_7 (by decide), lv_osw (a := 93) s_8 (by decide), lv_osw (a := 123) s_9 (by decide), lv_osw (a := 125) s_10 (by decide)]; rfl) (by decide) ?_
  refine lv_iconst (v := nI 0) hx hb d_Text_isSign_94 (by decide) ?_
  exact wr_z (x := false) hx hb hr hlocks () (congrArg bI (by simp (decide := true) [tx_sign, s_1, s_2, s_3, s_4, s_5, s_6, s_7, s_8, s_9, s_10])) hK hP hD hS d_Text_isSign_95
def tx_kind (f r : Int64) : Nat → Nat → Nat
  | 0, _ => 3
  | k + 1, i => if r = 0 ∧ f = kwn i then 6 + i else tx_kind f r k (i + 1)
theorem tx_kind_u (f r : Int64) (i : Nat) : tx_kind f r (6 - i) i = if i < 6 then (if r = 0 ∧ f = kwn i then 6 + i else tx_kind f r (6 - (i + 1)) (i + 1)) else 3 := by
  by_cases h : i < 6
  · rw [if_pos h, show 6 - i = (6 - (i + 1)) + 1 by omega]; rfl
  · rw [if_neg h, show 6 - i = 0 by omega]; rfl
theorem d_Text_wordKind_0 : decode b_Text_wordKind 0 = .ok (.iconst 0, 1) := by decide +kernel
theorem d_Text_wordKind_1 : decode b_Text_wordKind 1 = .ok (.istore 4, 2) := by decide +kernel
theorem d_Text_wordKind_3 : decode b_Text_wordKind 3 = .ok (.iload 4, 2) := by decide +kernel
theorem d_Text_wordKind_5 : decode b_Text_wordKind 5 = .ok (.getstatic 75, 3) := by decide +kernel
theorem d_Text_wordKind_8 : decode b_Text_wordKind 8 = .ok (.arraylength, 1) := by decide +kernel
theorem d_Text_wordKind_9 : decode b_Text_wordKind 9 = .ok (.if_icmp .ge 32, 3) := by decide +kernel
theorem d_Text_wordKind_12 : decode b_Text_wordKind 12 = .ok (.lload_n 2, 1) := by decide +kernel
theorem d_Text_wordKind_13 : decode b_Text_wordKind 13 = .ok (.lconst 0, 1) := by decide +kernel
theorem d_Text_wordKind_14 : decode b_Text_wordKind 14 = .ok (.lcmp, 1) := by decide +kernel
theorem d_Text_wordKind_15 : decode b_Text_wordKind 15 = .ok (.ifCond .ne 20, 3) := by decide +kernel
theorem d_Text_wordKind_18 : decode b_Text_wordKind 18 = .ok (.lload_n 0, 1) := by decide +kernel
theorem d_Text_wordKind_19 : decode b_Text_wordKind 19 = .ok (.getstatic 75, 3) := by decide +kernel
theorem d_Text_wordKind_22 : decode b_Text_wordKind 22 = .ok (.iload 4, 2) := by decide +kernel
theorem d_Text_wordKind_24 : decode b_Text_wordKind 24 = .ok (.laload, 1) := by decide +kernel
theorem d_Text_wordKind_25 : decode b_Text_wordKind 25 = .ok (.lcmp, 1) := by decide +kernel
theorem d_Text_wordKind_26 : decode b_Text_wordKind 26 = .ok (.ifCond .ne 9, 3) := by decide +kernel
theorem d_Text_wordKind_29 : decode b_Text_wordKind 29 = .ok (.bipush 6, 2) := by decide +kernel
theorem d_Text_wordKind_31 : decode b_Text_wordKind 31 = .ok (.iload 4, 2) := by decide +kernel
theorem d_Text_wordKind_33 : decode b_Text_wordKind 33 = .ok (.iadd, 1) := by decide +kernel
theorem d_Text_wordKind_34 : decode b_Text_wordKind 34 = .ok (.ireturn, 1) := by decide +kernel
theorem d_Text_wordKind_35 : decode b_Text_wordKind 35 = .ok (.iinc 4 1, 3) := by decide +kernel
theorem d_Text_wordKind_38 : decode b_Text_wordKind 38 = .ok (.goto (-35), 3) := by decide +kernel
theorem d_Text_wordKind_41 : decode b_Text_wordKind 41 = .ok (.iconst 3, 1) := by decide +kernel
theorem d_Text_wordKind_42 : decode b_Text_wordKind 42 = .ok (.ireturn, 1) := by decide +kernel
set_option maxHeartbeats 4000000 in
set_option maxRecDepth 100000 in
theorem lp_Text_wordKind {p : Program} {l : Launch} {e : Env} {s : State} {m : MethodId} {args : Array Value} {below : List Frame} {meth : Method} {c : Code} {Q : State → Prop} {A : Nat → Prop} {dC : Nat → ClassId} {dI : Nat → Nat → Nat} {cB cI cL cZ cC cO : ClassId} {f r : Int64} {v : Nat} {tk : Nat} (hZk : va_Z "ChipDesk$Text" "KEYWORDS" "[J" (.ref tk) A s s.heap) (hTk : va_T .long tk 6 kwv A s s.heap) (hx : p.tables.exec = Jvm.exec) (hb : c.code = b_Text_wordKind) (hml : c.maxLocals = 5) (hown : s.vm.findClass R_Text = some m.cls) (hts : ∀ w ∈ tb, w.before args s = true) (hA : ∀ q, s.heap.size ≤ q → A q) (hF : stF A s) (hK : va_K (dC, dI) cl [(cB, .byte), (cI, .int), (cL, .long), (cZ, .boolean), (cC, .char), (cO, .object "java/lang/Object")] s)
    (kx : ∀  (H : Heap) (locs : List Loc) (ls : Array Slot), va_P (dC, dI) cl [] H → va_D A [] → va_S A s.heap H locs → lv_has ls 5 [(0, .long f), (2, .long r)] → W p l e (headSpec w_Text_wordKind { frames := 0, cells := 0, slots := 0, locals := 0 }).room s m args below meth c H locs 0 0 Q (F0 m 34 ls [.int (nI v)])) (ky : ∀  (H : Heap) (locs : List Loc) (ls : Array Slot), va_P (dC, dI) cl [] H → va_D A [] → va_S A s.heap H locs → lv_has ls 5 [(0, .long f), (2, .long r)] → W p l e (headSpec w_Text_wordKind { frames := 0, cells := 0, slots := 0, locals := 0 }).room s m args below meth c H locs 0 0 Q (F0 m 42 ls [.int (nI v)])) :
    ∀ (k : Nat) (i : Nat) (H : Heap) (locs : List Loc) (ls : Array Slot), 6 < i + k → i ≤ 6 → tx_kind f r (6 - i) i = v → va_P (dC, dI) cl [] H → va_D A [] → va_S A s.heap H locs → lv_has ls 5 [(4, .int (nI i)), (0, .long f), (2, .long r)] → W p l e (headSpec w_Text_wordKind { frames := 0, cells := 0, slots := 0, locals := 0 }).room s m args below meth c H locs 0 0 Q (F0 m 3 ls []) := by
  intro k
  induction k with
  | zero =>
    intro i H locs ls hk hi hr hP hD hS hl
    exfalso; omega
  | succ k ih =>
    intro i H locs ls hk hi hr hP hD hS hl
    refine lv_iload hx hb d_Text_wordKind_3 (lv_at hl 0 rfl) ?_
    refine va_gets hx hb hZk hS hown (hts _ k_512) (fun _ h9 => h9) d_Text_wordKind_5 ?_
    refine va_tlen (v := nI 6) hx hb hTk hS rfl d_Text_wordKind_8 ?_
    refine nv_icmp_ge (tgt := 41) hx hb (by omega) (by omega) d_Text_wordKind_9 (by decide) (fun c_1 => ?_) (fun c_1 => ?_)
    · refine lv_iconst (v := nI 3) hx hb d_Text_wordKind_41 (by decide) ?_
      have hv : 3 = v := by rw [← hr, tx_kind_u, if_neg (by omega)]
      subst hv
      exact ky H locs ls hP hD hS (lv_sub hl [1, 2] rfl)
    · refine lv_lload_n hx hb d_Text_wordKind_12 rfl (lv_at hl 2 rfl) ?_
      refine lv_lconst (v := 0) hx hb d_Text_wordKind_13 (by decide) ?_
      refine W.lcmp hx hb d_Text_wordKind_14 ?_
      refine nv_lif_ne (tgt := 35) hx hb d_Text_wordKind_15 (by decide) (fun c_2 => ?_) (fun c_2 => ?_)
      · refine lv_iinc (v := nI (i + 1)) (lv' := [(4, .int (nI (i + 1))), (0, .long f), (2, .long r)]) hx hb d_Text_wordKind_35 hl (k := 0) rfl (nI_1 _) (by decide) rfl (fun ls hl => ?_)
        refine lv_goto (tgt := 3) hx hb d_Text_wordKind_38 (by decide) ?_
        exact ih (i + 1) H locs ls (by omega) (by omega) (by rw [← hr, tx_kind_u f r i, if_pos (by omega), if_neg (fun q => c_2 (by first | exact q.1 | exact q.2))]) hP hD hS (lv_sub hl [0, 1, 2] rfl)
      · refine lv_lload_n hx hb d_Text_wordKind_18 rfl (lv_at hl 1 rfl) ?_
        refine va_gets hx hb hZk hS hown (hts _ k_512) (fun _ h9 => h9) d_Text_wordKind_19 ?_
        refine lv_iload hx hb d_Text_wordKind_22 (lv_at hl 0 rfl) ?_
        refine va_tl (v := .long (kwn i)) hx hb hTk hS (vp_in_nI (by omega) (by decide)) (by rw [nI_clamp (by omega)]; rfl) d_Text_wordKind_24 ?_
        refine W.lcmp hx hb d_Text_wordKind_25 ?_
        refine nv_lif_ne (tgt := 35) hx hb d_Text_wordKind_26 (by decide) (fun c_3 => ?_) (fun c_3 => ?_)
        · refine lv_iinc (v := nI (i + 1)) (lv' := [(4, .int (nI (i + 1))), (0, .long f), (2, .long r)]) hx hb d_Text_wordKind_35 hl (k := 0) rfl (nI_1 _) (by decide) rfl (fun ls hl => ?_)
          refine lv_goto (tgt := 3) hx hb d_Text_wordKind_38 (by decide) ?_
          exact ih (i + 1) H locs ls (by omega) (by omega) (by rw [← hr, tx_kind_u f r i, if_pos (by omega), if_neg (fun q => c_3 (by first | exact q.1 | exact q.2))]) hP hD hS (lv_sub hl [0, 1, 2] rfl)
        · refine lv_bipush (v := nI 6) hx hb d_Text_wordKind_29 (by decide) ?_
          refine lv_iload hx hb d_Text_wordKind_31 (lv_at hl 0 rfl) ?_
          refine nv_iadd hx hb d_Text_wordKind_33 ?_
          have hv : 6 + i = v := by rw [← hr, tx_kind_u, if_pos (by omega), if_pos ⟨c_2, c_3⟩]
          subst hv
          exact kx H locs ls hP hD hS (lv_sub hl [1, 2] rfl)
set_option maxHeartbeats 4000000 in
set_option maxRecDepth 100000 in
/-- wordKind -/
theorem c_Text_wordKind (l : Launch) (dC : Nat → ClassId) (dI : Nat → Nat → Nat) (cB cI cL cZ cC cO : ClassId) (f r : Int64) (sz : Nat)  : Met l y_Text_wordKind w_Text_wordKind ({ frames := 0, cells := 0, slots := 0, locals := 0 }) (va_Pc [.long f, .long r] (wB (dC, dI) cl [(cB, .byte), (cI, .int), (cL, .long), (cZ, .boolean), (cC, .char), (cO, .object "java/lang/Object")] sz [])) (va_Qi (fun (z : Int32) (u : Unit) => z = nI (tx_kind f r 6 0)) (fun _ t => wA (dC, dI) cl [(cB, .byte), (cI, .int), (cL, .long), (cZ, .boolean), (cC, .char), (cO, .object "java/lang/Object")] (va_A [] sz) [] t) (va_A [] sz)) 0 0 (va_A [] sz) := by
  refine Met.ofW (cc := b_Text_wordKind) (maxL := 5) (ret := (some ClassFile.FieldType.int)) (by decide) rfl ?_
  intro p e s m args below meth c s₁ B hml hv
  obtain ⟨rfl, hsz, hP, hK, hD0, hF⟩ := hv
  have hx := B.exec
  have hb := B.bytes
  have hr := B.returns
  have hts := atoms_spec (ws := w_Text_wordKind) B.pre
  have hts : ∀ w ∈ tb, w.before _ s = true := fun w h => hts w (List.mem_cons_of_mem _ h)
  have hown : s.vm.findClass R_Text = some m.cls := findClass_of_methodNamed B.named
  have hlocks := B.notSynchronized
  subst hsz
  have hD := hD0.self (sz := s.heap.size)
  generalize hAe : va_A [] s.heap.size = A at hD hF ⊢
  have hA : ∀ q : Nat, s.heap.size ≤ q → A q := fun q h => by rw [← hAe]; exact Or.inr h
  have hS : va_S A s.heap s.heap [] := va_S.rf
  have hP : va_P (dC, dI) cl [] s.heap := hP
  have hl := lv_entry ([.long f, .long r]) (n := 5) (Nat.le_of_ble_eq_true rfl)
  rw [lg_entry_eq]
  generalize (lg_sl ([.long f, .long r]) ++ List.replicate (5 - (lg_sl ([.long f, .long r])).length) Slot.unset).toArray = ls at hl ⊢
  have hl : lv_has ls 5 [(0, .long f), (2, .long r)] := hl
  obtain ⟨tk, hZk, hTk⟩ := hF.1
  refine lv_iconst (v := nI 0) hx hb d_Text_wordKind_0 (by decide) ?_
  refine lv_istore (lv' := [(4, .int (nI 0)), (0, .long f), (2, .long r)]) hx hb d_Text_wordKind_1 hl (by decide) rfl (fun ls hl => ?_)
  refine lp_Text_wordKind (v := tx_kind f r 6 0) hZk hTk hx hb hml hown hts hA hF hK (fun H locs ls hP hD hS hl => ?_) (fun H locs ls hP hD hS hl => ?_) 7 0 _ _ ls (by omega) (by omega) rfl hP hD hS (lv_sub hl [0, 1, 2] rfl)
  · exact wr_i hx hb hr hlocks () rfl hK hP hD hS d_Text_wordKind_34
  · exact wr_i hx hb hr hlocks () rfl hK hP hD hS d_Text_wordKind_42
