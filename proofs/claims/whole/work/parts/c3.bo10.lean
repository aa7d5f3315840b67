/-- the board's IN pin x, and its OUT pin x: a wire's address -/
noncomputable def sIn (ip : Nat) (xs : List Nat) (x : Int32) : Option Nat := if ¬ x < 0 ∧ x.toNatClampNeg < ip then xs[x.toNatClampNeg]? else none
noncomputable def sOut (ip : Nat) (xs : List Nat) (x : Int32) : Option Nat := if ¬ x < 0 ∧ x.toNatClampNeg < xs.length - ip then xs[ip + x.toNatClampNeg]? else none
/-- the lowest bits of y into the signals from b on -/
def drc (y : Int32) (b : Nat) : Nat → Nat → (Nat → Bool) → Nat → Bool
  | 0, _, f => f
  | k + 1, i, f => drc y b k (i + 1) (va_up f (b + i) (decide (dbit y i ≠ 0)))
theorem drc_u (y : Int32) (b n i : Nat) (f : Nat → Bool) : drc y b (n - i) i f = if i < n then drc y b (n - (i + 1)) (i + 1) (va_up f (b + i) (decide (dbit y i ≠ 0))) else f := by
  by_cases h : i < n
  · rw [if_pos h, show n - i = (n - (i + 1)) + 1 by omega]; rfl
  · rw [if_neg h, show n - i = 0 by omega]; rfl
/-- the number of the bits i, i + 1 .. -/
def onm (S : Nat → Bool) : Nat → Nat → Nat → Nat
  | 0, _, v => v
  | k + 1, i, v => onm S k (i + 1) (v + (if S i = true then 2 ^ i else 0))
theorem onm_u (S : Nat → Bool) (n i v : Nat) : onm S (n - i) i v = if i < n then onm S (n - (i + 1)) (i + 1) (v + (if S i = true then 2 ^ i else 0)) else v := by
  by_cases h : i < n
  · rw [if_pos h, show n - i = (n - (i + 1)) + 1 by omega]; rfl
  · rw [if_neg h, show n - i = 0 by omega]; rfl
theorem shl_1 : ∀ i, i < 16 → nI 1 <<< (nI i &&& 31) = nI (2 ^ i) := by decide +kernel
theorem or_pw {v i : Nat} (h : v < 2 ^ i) : v ||| 2 ^ i = v + 2 ^ i := by
  have := Nat.two_pow_add_eq_or_of_lt h 1
  rw [Nat.mul_one] at this
  rw [Nat.or_comm, ← this, Nat.add_comm]
theorem or_shl {v i : Nat} (hi : i < 16) (h : v < 2 ^ i) : nI v ||| (nI 1 <<< (nI i &&& 31)) = nI (v + 2 ^ i) := by rw [shl_1 i hi, nI_or, or_pw h]
theorem or_z (v : Nat) : nI v ||| nI 0 = nI (v + 0) := by rw [nI_or, Nat.or_zero, Nat.add_zero]
theorem d_Board_setIn_0 : decode b_Board_setIn 0 = .ok (.aload_n 0, 1) := by decide +kernel
theorem d_Board_setIn_1 : decode b_Board_setIn 1 = .ok (.getfield 13, 3) := by decide +kernel
theorem d_Board_setIn_4 : decode b_Board_setIn 4 = .ok (.ifnull 32, 3) := by decide +kernel
theorem d_Board_setIn_7 : decode b_Board_setIn 7 = .ok (.iload_n 1, 1) := by decide +kernel
theorem d_Board_setIn_8 : decode b_Board_setIn 8 = .ok (.ifCond .lt 28, 3) := by decide +kernel
theorem d_Board_setIn_11 : decode b_Board_setIn 11 = .ok (.iload_n 1, 1) := by decide +kernel
theorem d_Board_setIn_12 : decode b_Board_setIn 12 = .ok (.aload_n 0, 1) := by decide +kernel
theorem d_Board_setIn_13 : decode b_Board_setIn 13 = .ok (.getfield 13, 3) := by decide +kernel
theorem d_Board_setIn_16 : decode b_Board_setIn 16 = .ok (.getfield 189, 3) := by decide +kernel
theorem d_Board_setIn_19 : decode b_Board_setIn 19 = .ok (.if_icmp .ge 17, 3) := by decide +kernel
theorem d_Board_setIn_22 : decode b_Board_setIn 22 = .ok (.iload_n 1, 1) := by decide +kernel
theorem d_Board_setIn_23 : decode b_Board_setIn 23 = .ok (.aload_n 0, 1) := by decide +kernel
theorem d_Board_setIn_24 : decode b_Board_setIn 24 = .ok (.getfield 13, 3) := by decide +kernel
theorem d_Board_setIn_27 : decode b_Board_setIn 27 = .ok (.getfield 192, 3) := by decide +kernel
theorem d_Board_setIn_30 : decode b_Board_setIn 30 = .ok (.invokevirtual 106, 3) := by decide +kernel
theorem d_Board_setIn_33 : decode b_Board_setIn 33 = .ok (.if_icmp .lt 5, 3) := by decide +kernel
theorem d_Board_setIn_36 : decode b_Board_setIn 36 = .ok (.iconst 0, 1) := by decide +kernel
theorem d_Board_setIn_37 : decode b_Board_setIn 37 = .ok (.ireturn, 1) := by decide +kernel
theorem d_Board_setIn_38 : decode b_Board_setIn 38 = .ok (.aload_n 0, 1) := by decide +kernel
theorem d_Board_setIn_39 : decode b_Board_setIn 39 = .ok (.getfield 13, 3) := by decide +kernel
theorem d_Board_setIn_42 : decode b_Board_setIn 42 = .ok (.getfield 192, 3) := by decide +kernel
theorem d_Board_setIn_45 : decode b_Board_setIn 45 = .ok (.iload_n 1, 1) := by decide +kernel
theorem d_Board_setIn_46 : decode b_Board_setIn 46 = .ok (.invokevirtual 112, 3) := by decide +kernel
theorem d_Board_setIn_49 : decode b_Board_setIn 49 = .ok (.checkcast 5, 3) := by decide +kernel
theorem d_Board_setIn_52 : decode b_Board_setIn 52 = .ok (.astore_n 3, 1) := by decide +kernel
theorem d_Board_setIn_53 : decode b_Board_setIn 53 = .ok (.iconst 0, 1) := by decide +kernel
theorem d_Board_setIn_54 : decode b_Board_setIn 54 = .ok (.istore 4, 2) := by decide +kernel
theorem d_Board_setIn_56 : decode b_Board_setIn 56 = .ok (.iload 4, 2) := by decide +kernel
theorem d_Board_setIn_58 : decode b_Board_setIn 58 = .ok (.aload_n 3, 1) := by decide +kernel
theorem d_Board_setIn_59 : decode b_Board_setIn 59 = .ok (.getfield 154, 3) := by decide +kernel
theorem d_Board_setIn_62 : decode b_Board_setIn 62 = .ok (.if_icmp .ge 37, 3) := by decide +kernel
theorem d_Board_setIn_65 : decode b_Board_setIn 65 = .ok (.aload_n 0, 1) := by decide +kernel
theorem d_Board_setIn_66 : decode b_Board_setIn 66 = .ok (.getfield 47, 3) := by decide +kernel
theorem d_Board_setIn_69 : decode b_Board_setIn 69 = .ok (.iconst 2, 1) := by decide +kernel
theorem d_Board_setIn_70 : decode b_Board_setIn 70 = .ok (.aload_n 3, 1) := by decide +kernel
theorem d_Board_setIn_71 : decode b_Board_setIn 71 = .ok (.getfield 142, 3) := by decide +kernel
theorem d_Board_setIn_74 : decode b_Board_setIn 74 = .ok (.iadd, 1) := by decide +kernel
theorem d_Board_setIn_75 : decode b_Board_setIn 75 = .ok (.iload 4, 2) := by decide +kernel
theorem d_Board_setIn_77 : decode b_Board_setIn 77 = .ok (.iadd, 1) := by decide +kernel
theorem d_Board_setIn_78 : decode b_Board_setIn 78 = .ok (.iload_n 2, 1) := by decide +kernel
theorem d_Board_setIn_79 : decode b_Board_setIn 79 = .ok (.iload 4, 2) := by decide +kernel
theorem d_Board_setIn_81 : decode b_Board_setIn 81 = .ok (.ishr, 1) := by decide +kernel
theorem d_Board_setIn_82 : decode b_Board_setIn 82 = .ok (.iconst 1, 1) := by decide +kernel
theorem d_Board_setIn_83 : decode b_Board_setIn 83 = .ok (.iand, 1) := by decide +kernel
theorem d_Board_setIn_84 : decode b_Board_setIn 84 = .ok (.ifCond .eq 7, 3) := by decide +kernel
theorem d_Board_setIn_87 : decode b_Board_setIn 87 = .ok (.iconst 1, 1) := by decide +kernel
theorem d_Board_setIn_88 : decode b_Board_setIn 88 = .ok (.goto 4, 3) := by decide +kernel
theorem d_Board_setIn_91 : decode b_Board_setIn 91 = .ok (.iconst 0, 1) := by decide +kernel
theorem d_Board_setIn_92 : decode b_Board_setIn 92 = .ok (.bastore, 1) := by decide +kernel
theorem d_Board_setIn_93 : decode b_Board_setIn 93 = .ok (.iinc 4 1, 3) := by decide +kernel
theorem d_Board_setIn_96 : decode b_Board_setIn 96 = .ok (.goto (-40), 3) := by decide +kernel
theorem d_Board_setIn_99 : decode b_Board_setIn 99 = .ok (.aload_n 0, 1) := by decide +kernel
theorem d_Board_setIn_100 : decode b_Board_setIn 100 = .ok (.invokevirtual 96, 3) := by decide +kernel
theorem d_Board_setIn_103 : decode b_Board_setIn 103 = .ok (.iconst 1, 1) := by decide +kernel
theorem d_Board_setIn_104 : decode b_Board_setIn 104 = .ok (.ireturn, 1) := by decide +kernel
set_option maxHeartbeats 4000000 in
set_option maxRecDepth 100000 in
theorem lp_Board_setIn {p : Program} {l : Launch} {e : Env} {s : State} {m : MethodId} {args : Array Value} {below : List Frame} {meth : Method} {c : Code} {Q : State → Prop} {A : Nat → Prop} {dC : Nat → ClassId} {dI : Nat → Nat → Nat} {cB cI cL cZ cC cO : ClassId} {t0 : Nat} {qd a_firstIn a_secondIn a_value a_order : Nat}{f1 f2 f3 f4 f7 f8 f11 f12 f15 f16 f17 : Value} {L : List Nat} {G : PG} {ct a fg no : Nat} {fi si od : Nat → Nat} {y : Int32} {on : Nat} {F : Nat → Bool} (hL : gL L G) (hka : G.1 a = 2) (hwa : G.2.1 a 2 ≤ 16) (hoa : G.2.1 a 4 + G.2.1 a 2 + 2 ≤ fg) (hfg : fg ≤ 130) (hx : p.tables.exec = Jvm.exec) (hb : c.code = b_Board_setIn) (hml : c.maxLocals = 5) (hown : s.vm.findClass R_Board = some m.cls) (hts : ∀ w ∈ tb, w.before args s = true) (hA : ∀ q, s.heap.size ≤ q → A q) (hF : stF A s) (hE : stE A t0 s) (hK : va_K (dC, dI) cl [(cB, .byte), (cI, .int), (cL, .long), (cZ, .boolean), (cC, .char), (cO, .object "java/lang/Object")] s)
    (kx : ∀  (H : Heap) (locs : List Loc) (ls : Array Slot), va_P (dC, dI) cl ([(qd, .inr (9, [.ref ct, f1, f2, f3, f4, .ref a_firstIn, .ref a_secondIn, f7, f8, .int (nI fg), .ref a_value, f11, f12, .ref a_order, .int (nI no), f15, f16, f17, .int (nI on)])), (a_firstIn, .inl (cI, 300, .inl (nF fi))), (a_secondIn, .inl (cI, 300, .inl (nF si))), (a_value, .inl (cZ, 430, .inl (bF F))), (a_order, .inl (cI, 300, .inl (nF od)))] ++ va_pl L (gE cO G)) H → va_D A ([(qd, .inr (9, [.ref ct, f1, f2, f3, f4, .ref a_firstIn, .ref a_secondIn, f7, f8, .int (nI fg), .ref a_value, f11, f12, .ref a_order, .int (nI no), f15, f16, f17, .int (nI on)])), (a_firstIn, .inl (cI, 300, .inl (nF fi))), (a_secondIn, .inl (cI, 300, .inl (nF si))), (a_value, .inl (cZ, 430, .inl (bF F))), (a_order, .inl (cI, 300, .inl (nF od)))] ++ va_pl L (gE cO G)) → va_S A s.heap H locs → lv_has ls 5 [(3, .ref a), (0, .ref qd), (2, .int y)] → W p l e (headSpec w_Board_setIn { frames := 4, cells := 0, slots := 0, locals := 220 }).room s m args below meth c H locs 0 0 Q (F0 m 99 ls [])) :
    ∀ (k : Nat) (i : Nat) (va : Nat → Bool) (H : Heap) (locs : List Loc) (ls : Array Slot), G.2.1 a 2 < i + k → i ≤ G.2.1 a 2 → drc y (2 + G.2.1 a 4) (G.2.1 a 2 - i) i va = F → va_P (dC, dI) cl ([(qd, .inr (9, [.ref ct, f1, f2, f3, f4, .ref a_firstIn, .ref a_secondIn, f7, f8, .int (nI fg), .ref a_value, f11, f12, .ref a_order, .int (nI no), f15, f16, f17, .int (nI on)])), (a_firstIn, .inl (cI, 300, .inl (nF fi))), (a_secondIn, .inl (cI, 300, .inl (nF si))), (a_value, .inl (cZ, 430, .inl (bF va))), (a_order, .inl (cI, 300, .inl (nF od)))] ++ va_pl L (gE cO G)) H → va_D A ([(qd, .inr (9, [.ref ct, f1, f2, f3, f4, .ref a_firstIn, .ref a_secondIn, f7, f8, .int (nI fg), .ref a_value, f11, f12, .ref a_order, .int (nI no), f15, f16, f17, .int (nI on)])), (a_firstIn, .inl (cI, 300, .inl (nF fi))), (a_secondIn, .inl (cI, 300, .inl (nF si))), (a_value, .inl (cZ, 430, .inl (bF va))), (a_order, .inl (cI, 300, .inl (nF od)))] ++ va_pl L (gE cO G)) → va_S A s.heap H locs → lv_has ls 5 [(4, .int (nI i)), (3, .ref a), (0, .ref qd), (2, .int y)] → W p l e (headSpec w_Board_setIn { frames := 4, cells := 0, slots := 0, locals := 220 }).room s m args below meth c H locs 0 0 Q (F0 m 56 ls []) := by
  intro k
  induction k with
  | zero =>
    intro i va H locs ls hk hi hr hP hD hS hl
    exfalso; omega
  | succ k ih =>
    intro i va H locs ls hk hi hr hP hD hS hl
    refine lv_iload hx hb d_Board_setIn_56 (lv_at hl 0 rfl) ?_
    refine lv_aload_n hx hb d_Board_setIn_58 rfl (lv_at hl 1 rfl) ?_
    refine pq_get (D := (dC, dI)) (ci := 8) (v := .int (nI (G.2.1 a 2))) (C := R_Wire) (T := F_Wire) (N := 7) hx hb hts i_Wire hown hK hP (gL_m hL hka (by decide)) (gE_2 (G := G) hka) rfl 2 (by decide) (hts _ k_223) (fun _ h9 => h9) rfl d_Board_setIn_59 ?_
    refine nv_icmp_ge (tgt := 99) hx hb (by omega) (by omega) d_Board_setIn_62 (by decide) (fun c_1 => ?_) (fun c_1 => ?_)
    · have hq : va = F := by rw [← hr, drc_u, if_neg (by omega)]
      subst hq
      exact kx H locs ls hP hD hS (lv_sub hl [1, 2, 3] rfl)
    · refine lv_aload_n hx hb d_Board_setIn_65 rfl (lv_at hl 2 rfl) ?_
      refine va_get (D := (dC, dI)) (ci := 9) (v := .ref a_value) (C := R_Board) (T := F_Board) (N := 19) hx hb hts i_Board hown hK hP 0 rfl rfl 10 (by decide) (hts _ k_383) (fun _ h9 => h9) rfl d_Board_setIn_66 ?_
      refine lv_iconst (v := nI 2) hx hb d_Board_setIn_69 (by decide) ?_
      refine lv_aload_n hx hb d_Board_setIn_70 rfl (lv_at hl 1 rfl) ?_
      refine pq_get (D := (dC, dI)) (ci := 8) (v := .int (nI (G.2.1 a 4))) (C := R_Wire) (T := F_Wire) (N := 7) hx hb hts i_Wire hown hK hP (gL_m hL hka (by decide)) (gE_2 (G := G) hka) rfl 4 (by decide) (hts _ k_228) (fun _ h9 => h9) rfl d_Board_setIn_71 ?_
      refine nv_iadd hx hb d_Board_setIn_74 ?_
      refine lv_iload hx hb d_Board_setIn_75 (lv_at hl 0 rfl) ?_
      refine nv_iadd hx hb d_Board_setIn_77 ?_
      refine lv_iload_n hx hb d_Board_setIn_78 rfl (lv_at hl 3 rfl) ?_
      refine lv_iload hx hb d_Board_setIn_79 (lv_at hl 0 rfl) ?_
      refine lv_ishr hx hb d_Board_setIn_81 ?_
      refine lv_iconst (v := nI 1) hx hb d_Board_setIn_82 (by decide) ?_
      refine lv_iand hx hb d_Board_setIn_83 ?_
      rw [and1]
      refine W.eq (g2 := F0 m 84 ls [.int (nI (dbit y i)), .int (nI ((2 + (G.2.1 a 4)) + i)), .ref a_value]) rfl ?_
      have hdb := dbit_le y i
      refine nv_if_eq (tgt := 91) hx hb (by omega) d_Board_setIn_84 (by decide) (fun c_2 => ?_) (fun c_2 => ?_)
      · refine lv_iconst (v := nI 0) hx hb d_Board_setIn_91 (by decide) ?_
        refine nv_zastB (x := false) hx hb hK hP hD hS 3 3 rfl rfl (by omega) (by decide) d_Board_setIn_92 (fun H locs hP hD hS => ?_)
        have hP : va_P (dC, dI) cl ([(qd, .inr (9, [.ref ct, f1, f2, f3, f4, .ref a_firstIn, .ref a_secondIn, f7, f8, .int (nI fg), .ref a_value, f11, f12, .ref a_order, .int (nI no), f15, f16, f17, .int (nI on)])), (a_firstIn, .inl (cI, 300, .inl (nF fi))), (a_secondIn, .inl (cI, 300, .inl (nF si))), (a_value, .inl (cZ, 430, .inl (bF (va_up va ((2 + (G.2.1 a 4)) + i) false)))), (a_order, .inl (cI, 300, .inl (nF od)))] ++ va_pl L (gE cO G)) H := hP
        have hD : va_D A ([(qd, .inr (9, [.ref ct, f1, f2, f3, f4, .ref a_firstIn, .ref a_secondIn, f7, f8, .int (nI fg), .ref a_value, f11, f12, .ref a_order, .int (nI no), f15, f16, f17, .int (nI on)])), (a_firstIn, .inl (cI, 300, .inl (nF fi))), (a_secondIn, .inl (cI, 300, .inl (nF si))), (a_value, .inl (cZ, 430, .inl (bF (va_up va ((2 + (G.2.1 a 4)) + i) false)))), (a_order, .inl (cI, 300, .inl (nF od)))] ++ va_pl L (gE cO G)) := hD
        refine lv_iinc (v := nI (i + 1)) (lv' := [(4, .int (nI (i + 1))), (3, .ref a), (0, .ref qd), (2, .int y)]) hx hb d_Board_setIn_93 hl (k := 0) rfl (nI_1 _) (by decide) rfl (fun ls hl => ?_)
        refine lv_goto (tgt := 56) hx hb d_Board_setIn_96 (by decide) ?_
        have hd9 : decide (dbit y i ≠ 0) = false := by simp [c_2]
        exact ih (i + 1) _ H locs ls (by omega) (by omega) (by rw [← hr, drc_u y _ _ i, if_pos (by omega), hd9]) hP hD hS (lv_sub hl [0, 1, 2, 3] rfl)
      · refine lv_iconst (v := nI 1) hx hb d_Board_setIn_87 (by decide) ?_
        refine lv_goto (tgt := 92) hx hb d_Board_setIn_88 (by decide) ?_
        refine nv_zastB (x := true) hx hb hK hP hD hS 3 3 rfl rfl (by omega) (by decide) d_Board_setIn_92 (fun H locs hP hD hS => ?_)
        have hP : va_P (dC, dI) cl ([(qd, .inr (9, [.ref ct, f1, f2, f3, f4, .ref a_firstIn, .ref a_secondIn, f7, f8, .int (nI fg), .ref a_value, f11, f12, .ref a_order, .int (nI no), f15, f16, f17, .int (nI on)])), (a_firstIn, .inl (cI, 300, .inl (nF fi))), (a_secondIn, .inl (cI, 300, .inl (nF si))), (a_value, .inl (cZ, 430, .inl (bF (va_up va ((2 + (G.2.1 a 4)) + i) true)))), (a_order, .inl (cI, 300, .inl (nF od)))] ++ va_pl L (gE cO G)) H := hP
        have hD : va_D A ([(qd, .inr (9, [.ref ct, f1, f2, f3, f4, .ref a_firstIn, .ref a_secondIn, f7, f8, .int (nI fg), .ref a_value, f11, f12, .ref a_order, .int (nI no), f15, f16, f17, .int (nI on)])), (a_firstIn, .inl (cI, 300, .inl (nF fi))), (a_secondIn, .inl (cI, 300, .inl (nF si))), (a_value, .inl (cZ, 430, .inl (bF (va_up va ((2 + (G.2.1 a 4)) + i) true)))), (a_order, .inl (cI, 300, .inl (nF od)))] ++ va_pl L (gE cO G)) := hD
        refine lv_iinc (v := nI (i + 1)) (lv' := [(4, .int (nI (i + 1))), (3, .ref a), (0, .ref qd), (2, .int y)]) hx hb d_Board_setIn_93 hl (k := 0) rfl (nI_1 _) (by decide) rfl (fun ls hl => ?_)
        refine lv_goto (tgt := 56) hx hb d_Board_setIn_96 (by decide) ?_
        have hd9 : decide (dbit y i ≠ 0) = true := by simp [c_2]
        exact ih (i + 1) _ H locs ls (by omega) (by omega) (by rw [← hr, drc_u y _ _ i, if_pos (by omega), hd9]) hP hD hS (lv_sub hl [0, 1, 2, 3] rfl)
set_option maxHeartbeats 4000000 in
set_option maxRecDepth 100000 in
/-- setIn(x, y) -/
theorem p_Board_setIn (l : Launch) (dC : Nat → ClassId) (dI : Nat → Nat → Nat) (cB cI cL cZ cC cO : ClassId) {qd a_firstIn a_secondIn a_value a_order : Nat}{f1 f2 f3 f4 f7 f8 f11 f12 f15 f16 f17 : Value} {L : List Nat} {G : PG} (ct pl ip fg no on : Nat) (xs : List Nat) (fi si od : Nat → Nat) (va : Nat → Bool) (x y : Int32) (t0 sz : Nat) (hL : gL L G) (kct : G.1 ct = 6) (hip : G.2.1 ct 6 = ip) (hpl : G.2.2.2.2.2 ct 3 = some pl) (hls : LSx t0 G pl xs) (hxs : xs.length ≤ 16) (hix : ip ≤ xs.length) (hno : no ≤ 300) (hgd : ∀ i, i < no → od i < 300 ∧ fi (od i) < 430 ∧ si (od i) < 430) (hfg : fg ≤ 130) (hxw : ∀ a, (sIn ip xs x) = some a → G.1 a = 2 ∧ G.2.1 a 2 ≤ 16 ∧ G.2.1 a 4 + G.2.1 a 2 + 2 ≤ fg) : Met l y_Board_setIn w_Board_setIn ({ frames := 4, cells := 0, slots := 0, locals := 220 }) (va_Pc [.ref qd, .int x, .int y] (wB2 (dC, dI) cl [(cB, .byte), (cI, .int), (cL, .long), (cZ, .boolean), (cC, .char), (cO, .object "java/lang/Object")] sz t0 ([(qd, .inr (9, [.ref ct, f1, f2, f3, f4, .ref a_firstIn, .ref a_secondIn, f7, f8, .int (nI fg), .ref a_value, f11, f12, .ref a_order, .int (nI no), f15, f16, f17, .int (nI on)])), (a_firstIn, .inl (cI, 300, .inl (nF fi))), (a_secondIn, .inl (cI, 300, .inl (nF si))), (a_value, .inl (cZ, 430, .inl (bF va))), (a_order, .inl (cI, 300, .inl (nF od)))] ++ va_pl L (gE cO G)))) (va_Qi (fun (r : Int32) (u : (Nat → Bool) × Nat) => r = bI (sIn ip xs x).isSome ∧ u = (match (sIn ip xs x) with | none => (va, on) | some a => bd_set od fi si fg no 0 (drc y (2 + G.2.1 a 4) (G.2.1 a 2) 0 va, 0))) (fun u t => wA (dC, dI) cl [(cB, .byte), (cI, .int), (cL, .long), (cZ, .boolean), (cC, .char), (cO, .object "java/lang/Object")] (va_A ([(qd, .inr (9, [.ref ct, f1, f2, f3, f4, .ref a_firstIn, .ref a_secondIn, f7, f8, .int (nI fg), .ref a_value, f11, f12, .ref a_order, .int (nI no), f15, f16, f17, .int (nI on)])), (a_firstIn, .inl (cI, 300, .inl (nF fi))), (a_secondIn, .inl (cI, 300, .inl (nF si))), (a_value, .inl (cZ, 430, .inl (bF va))), (a_order, .inl (cI, 300, .inl (nF od)))] ++ va_pl L (gE cO G)) sz) ([(qd, .inr (9, [.ref ct, f1, f2, f3, f4, .ref a_firstIn, .ref a_secondIn, f7, f8, .int (nI fg), .ref a_value, f11, f12, .ref a_order, .int (nI no), f15, f16, f17, .int (nI u.2)])), (a_firstIn, .inl (cI, 300, .inl (nF fi))), (a_secondIn, .inl (cI, 300, .inl (nF si))), (a_value, .inl (cZ, 430, .inl (bF u.1))), (a_order, .inl (cI, 300, .inl (nF od)))] ++ va_pl L (gE cO G)) t) (va_A ([(qd, .inr (9, [.ref ct, f1, f2, f3, f4, .ref a_firstIn, .ref a_secondIn, f7, f8, .int (nI fg), .ref a_value, f11, f12, .ref a_order, .int (nI no), f15, f16, f17, .int (nI on)])), (a_firstIn, .inl (cI, 300, .inl (nF fi))), (a_secondIn, .inl (cI, 300, .inl (nF si))), (a_value, .inl (cZ, 430, .inl (bF va))), (a_order, .inl (cI, 300, .inl (nF od)))] ++ va_pl L (gE cO G)) sz)) 0 0 (va_A ([(qd, .inr (9, [.ref ct, f1, f2, f3, f4, .ref a_firstIn, .ref a_secondIn, f7, f8, .int (nI fg), .ref a_value, f11, f12, .ref a_order, .int (nI no), f15, f16, f17, .int (nI on)])), (a_firstIn, .inl (cI, 300, .inl (nF fi))), (a_secondIn, .inl (cI, 300, .inl (nF si))), (a_value, .inl (cZ, 430, .inl (bF va))), (a_order, .inl (cI, 300, .inl (nF od)))] ++ va_pl L (gE cO G)) sz) := by
  refine Met.ofW (cc := b_Board_setIn) (maxL := 5) (ret := (some ClassFile.FieldType.boolean)) (by decide) rfl ?_
  intro p e s m args below meth c s₁ B hml hv
  obtain ⟨rfl, ⟨hsz, hP, hK, hD0, hF⟩, hE⟩ := hv
  have hx := B.exec
  have hb := B.bytes
  have hr := B.returns
  have hts := atoms_spec (ws := w_Board_setIn) B.pre
  have hts : ∀ w ∈ tb, w.before _ s = true := fun w h => hts w (List.mem_cons_of_mem _ h)
  have hown : s.vm.findClass R_Board = some m.cls := findClass_of_methodNamed B.named
  have hlocks := B.notSynchronized
  subst hsz
  have hD := hD0.self (sz := s.heap.size)
  generalize hAe : va_A ([(qd, .inr (9, [.ref ct, f1, f2, f3, f4, .ref a_firstIn, .ref a_secondIn, f7, f8, .int (nI fg), .ref a_value, f11, f12, .ref a_order, .int (nI no), f15, f16, f17, .int (nI on)])), (a_firstIn, .inl (cI, 300, .inl (nF fi))), (a_secondIn, .inl (cI, 300, .inl (nF si))), (a_value, .inl (cZ, 430, .inl (bF va))), (a_order, .inl (cI, 300, .inl (nF od)))] ++ va_pl L (gE cO G)) s.heap.size = A at hD hF hE ⊢
  have hA : ∀ q : Nat, s.heap.size ≤ q → A q := fun q h => by rw [← hAe]; exact Or.inr h
  have hS : va_S A s.heap s.heap [] := va_S.rf
  have hP : va_P (dC, dI) cl ([(qd, .inr (9, [.ref ct, f1, f2, f3, f4, .ref a_firstIn, .ref a_secondIn, f7, f8, .int (nI fg), .ref a_value, f11, f12, .ref a_order, .int (nI no), f15, f16, f17, .int (nI on)])), (a_firstIn, .inl (cI, 300, .inl (nF fi))), (a_secondIn, .inl (cI, 300, .inl (nF si))), (a_value, .inl (cZ, 430, .inl (bF va))), (a_order, .inl (cI, 300, .inl (nF od)))] ++ va_pl L (gE cO G)) s.heap := hP
  have hl := lv_entry ([.ref qd, .int x, .int y]) (n := 5) (Nat.le_of_ble_eq_true rfl)
  rw [lg_entry_eq]
  generalize (lg_sl ([.ref qd, .int x, .int y]) ++ List.replicate (5 - (lg_sl ([.ref qd, .int x, .int y])).length) Slot.unset).toArray = ls at hl ⊢
  have hl : lv_has ls 5 [(0, .ref qd), (1, .int x), (2, .int y)] := hl
  by_cases hneg : x < 0
  · have hng9 := hneg
    refine lv_aload_n hx hb d_Board_setIn_0 rfl (lv_at hl 0 rfl) ?_
    refine va_get (D := (dC, dI)) (ci := 9) (v := .ref ct) (C := R_Board) (T := F_Board) (N := 19) hx hb hts i_Board hown hK hP 0 rfl rfl 0 (by decide) (hts _ k_373) (fun _ h9 => h9) rfl d_Board_setIn_1 ?_
    refine lv_ifnull hx hb d_Board_setIn_4 ?_
    refine lv_iload_n hx hb d_Board_setIn_7 rfl (lv_at hl 1 rfl) ?_
    refine lv_if_lt (tgt := 36) hx hb d_Board_setIn_8 (by decide) (fun c_1 => ?_) (fun c_1 => ?_)
    · refine lv_iconst (v := nI 0) hx hb d_Board_setIn_36 (by decide) ?_
      have hsi : (sIn ip xs x) = none := by unfold sIn; rw [if_neg (fun q9 => q9.1 hneg)]
      exact wr_z (x := false) hx hb hr hlocks (va, on) ⟨by rw [hsi]; rfl, by rw [hsi]⟩ hK hP hD hS d_Board_setIn_37
    · exact absurd hneg c_1
  · obtain ⟨kk, hkk, hxk⟩ := nI_of hneg
    have hcl : x.toNatClampNeg = kk := by rw [hxk, nI_clamp hkk]
    rw [hxk] at hl
    have hl : lv_has ls 5 [(0, .ref qd), (1, .int (nI kk)), (2, .int y)] := hl
    refine lv_aload_n hx hb d_Board_setIn_0 rfl (lv_at hl 0 rfl) ?_
    refine va_get (D := (dC, dI)) (ci := 9) (v := .ref ct) (C := R_Board) (T := F_Board) (N := 19) hx hb hts i_Board hown hK hP 0 rfl rfl 0 (by decide) (hts _ k_373) (fun _ h9 => h9) rfl d_Board_setIn_1 ?_
    refine lv_ifnull hx hb d_Board_setIn_4 ?_
    refine lv_iload_n hx hb d_Board_setIn_7 rfl (lv_at hl 1 rfl) ?_
    refine nv_if_lt (tgt := 36) hx hb (by omega) d_Board_setIn_8 (by decide) ?_
    refine lv_iload_n hx hb d_Board_setIn_11 rfl (lv_at hl 1 rfl) ?_
    refine lv_aload_n hx hb d_Board_setIn_12 rfl (lv_at hl 0 rfl) ?_
    refine va_get (D := (dC, dI)) (ci := 9) (v := .ref ct) (C := R_Board) (T := F_Board) (N := 19) hx hb hts i_Board hown hK hP 0 rfl rfl 0 (by decide) (hts _ k_373) (fun _ h9 => h9) rfl d_Board_setIn_13 ?_
    refine pq_get (D := (dC, dI)) (ci := 6) (v := .int (nI ip)) (C := R_Chip) (T := F_Chip) (N := 9) hx hb hts i_Chip hown hK hP (gL_m hL kct (by decide)) (gE_6 (G := G) kct) rfl 6 (by decide) (hts _ k_183) (fun _ h9 => h9) (congrArg (fun z9 => some (Value.int (nI z9))) hip) d_Board_setIn_16 ?_
    refine nv_icmp_ge (tgt := 36) hx hb (by omega) (by omega) d_Board_setIn_19 (by decide) (fun c_3 => ?_) (fun c_3 => ?_)
    · refine lv_iconst (v := nI 0) hx hb d_Board_setIn_36 (by decide) ?_
      have hsi : (sIn ip xs x) = none := by unfold sIn; rw [if_neg (fun q9 => by have := q9.2; omega)]
      exact wr_z (x := false) hx hb hr hlocks (va, on) ⟨by rw [hsi]; rfl, by rw [hsi]⟩ hK hP hD hS d_Board_setIn_37
    · refine lv_iload_n hx hb d_Board_setIn_22 rfl (lv_at hl 1 rfl) ?_
      refine lv_aload_n hx hb d_Board_setIn_23 rfl (lv_at hl 0 rfl) ?_
      refine va_get (D := (dC, dI)) (ci := 9) (v := .ref ct) (C := R_Board) (T := F_Board) (N := 19) hx hb hts i_Board hown hK hP 0 rfl rfl 0 (by decide) (hts _ k_373) (fun _ h9 => h9) rfl d_Board_setIn_24 ?_
      refine pq_get (D := (dC, dI)) (ci := 6) (v := .ref pl) (C := R_Chip) (T := F_Chip) (N := 9) hx hb hts i_Chip hown hK hP (gL_m hL kct (by decide)) (gE_6 (G := G) kct) rfl 3 (by decide) (hts _ k_175) (fun _ h9 => h9) (congrArg (fun z9 => some (va_rf z9)) hpl) d_Board_setIn_27 ?_
      refine wd_i (cx := []) (wr := [(qd, .inr (9, [.ref ct, f1, f2, f3, f4, .ref a_firstIn, .ref a_secondIn, f7, f8, .int (nI fg), .ref a_value, f11, f12, .ref a_order, .int (nI no), f15, f16, f17, .int (nI on)])), (a_firstIn, .inl (cI, 300, .inl (nF fi))), (a_secondIn, .inl (cI, 300, .inl (nF si))), (a_value, .inl (cZ, 430, .inl (bF va))), (a_order, .inl (cI, 300, .inl (nF od)))]) (pl := va_pl L (gE cO G)) (va_runV (As := []) (rest := [.int (nI kk)]) ⟨hx, hb, hml, hown, hts⟩ (p_List_size l dC dI cB cI cL cZ cC cO (G := G) pl t0 _ hL hls.k.1) (cwV 0 hts (good_V k_784 k_325 k_326 k_7 k_327) rfl rfl rfl (by decide +kernel) ⟨Nat.le_of_ble_eq_true rfl, Nat.le_of_ble_eq_true rfl⟩) (wd_preV (ci := 4) (r := (R_List, F_List, 3)) hK hP hD hS hA hF hE [] (by decide) rfl rfl (pq_at (gL_m hL hls.k.1 (by decide)) (gE_7 (G := G) hls.k.1))) rfl rfl hl.1 rfl (lv_room (Nat.le_of_ble_eq_true rfl)) d_Board_setIn_30 ⟨Nat.le_of_ble_eq_true rfl, Nat.le_of_ble_eq_true rfl⟩) hP hD hS hA [] [0, 1, 2, 3, 4] rfl rfl (by decide) (by decide) (fun r_5 _ H locs w_4 hP hD hS => ?_)
      have hP : va_P (dC, dI) cl ([(qd, .inr (9, [.ref ct, f1, f2, f3, f4, .ref a_firstIn, .ref a_secondIn, f7, f8, .int (nI fg), .ref a_value, f11, f12, .ref a_order, .int (nI no), f15, f16, f17, .int (nI on)])), (a_firstIn, .inl (cI, 300, .inl (nF fi))), (a_secondIn, .inl (cI, 300, .inl (nF si))), (a_value, .inl (cZ, 430, .inl (bF va))), (a_order, .inl (cI, 300, .inl (nF od)))] ++ va_pl L (gE cO G)) H := hP
      have hD : va_D A ([(qd, .inr (9, [.ref ct, f1, f2, f3, f4, .ref a_firstIn, .ref a_secondIn, f7, f8, .int (nI fg), .ref a_value, f11, f12, .ref a_order, .int (nI no), f15, f16, f17, .int (nI on)])), (a_firstIn, .inl (cI, 300, .inl (nF fi))), (a_secondIn, .inl (cI, 300, .inl (nF si))), (a_value, .inl (cZ, 430, .inl (bF va))), (a_order, .inl (cI, 300, .inl (nF od)))] ++ va_pl L (gE cO G)) := hD
      rw [hls.k.2] at w_4
      subst w_4
      refine nv_icmp_lt (tgt := 38) hx hb (by omega) (by omega) d_Board_setIn_33 (by decide) (fun c_6 => ?_) (fun c_6 => ?_)
      · refine lv_aload_n hx hb d_Board_setIn_38 rfl (lv_at hl 0 rfl) ?_
        refine va_get (D := (dC, dI)) (ci := 9) (v := .ref ct) (C := R_Board) (T := F_Board) (N := 19) hx hb hts i_Board hown hK hP 0 rfl rfl 0 (by decide) (hts _ k_373) (fun _ h9 => h9) rfl d_Board_setIn_39 ?_
        refine pq_get (D := (dC, dI)) (ci := 6) (v := .ref pl) (C := R_Chip) (T := F_Chip) (N := 9) hx hb hts i_Chip hown hK hP (gL_m hL kct (by decide)) (gE_6 (G := G) kct) rfl 3 (by decide) (hts _ k_175) (fun _ h9 => h9) (congrArg (fun z9 => some (va_rf z9)) hpl) d_Board_setIn_42 ?_
        refine lv_iload_n hx hb d_Board_setIn_45 rfl (lv_at hl 1 rfl) ?_
        obtain ⟨a, hai⟩ : ∃ z, xs[kk]? = some z := ⟨_, List.getElem?_eq_getElem (by omega)⟩
        refine wd_q (cx := []) (wr := [(qd, .inr (9, [.ref ct, f1, f2, f3, f4, .ref a_firstIn, .ref a_secondIn, f7, f8, .int (nI fg), .ref a_value, f11, f12, .ref a_order, .int (nI no), f15, f16, f17, .int (nI on)])), (a_firstIn, .inl (cI, 300, .inl (nF fi))), (a_secondIn, .inl (cI, 300, .inl (nF si))), (a_value, .inl (cZ, 430, .inl (bF va))), (a_order, .inl (cI, 300, .inl (nF od)))]) (pl := va_pl L (gE cO G)) (va_runV (As := [.int (nI kk)]) (rest := []) ⟨hx, hb, hml, hown, hts⟩ (p_List_get l dC dI cB cI cL cZ cC cO (G := G) pl (kk) xs t0 _ hL hls (by omega)) (cwV 1 hts (good_V k_785 k_329 k_330 k_7 k_331) rfl rfl rfl (by decide +kernel) ⟨Nat.le_of_ble_eq_true rfl, Nat.le_of_ble_eq_true rfl⟩) (wd_preV (ci := 4) (r := (R_List, F_List, 3)) hK hP hD hS hA hF hE [] (by decide) rfl rfl (pq_at (gL_m hL hls.k.1 (by decide)) (gE_7 (G := G) hls.k.1))) rfl rfl hl.1 rfl (lv_room (Nat.le_of_ble_eq_true rfl)) d_Board_setIn_46 ⟨Nat.le_of_ble_eq_true rfl, Nat.le_of_ble_eq_true rfl⟩) hP hD hS hA [] [0, 1, 2, 3, 4] rfl rfl (by decide) (by decide) (fun r_8 _ H locs w_7 hP hD hS => ?_)
        have hP : va_P (dC, dI) cl ([(qd, .inr (9, [.ref ct, f1, f2, f3, f4, .ref a_firstIn, .ref a_secondIn, f7, f8, .int (nI fg), .ref a_value, f11, f12, .ref a_order, .int (nI no), f15, f16, f17, .int (nI on)])), (a_firstIn, .inl (cI, 300, .inl (nF fi))), (a_secondIn, .inl (cI, 300, .inl (nF si))), (a_value, .inl (cZ, 430, .inl (bF va))), (a_order, .inl (cI, 300, .inl (nF od)))] ++ va_pl L (gE cO G)) H := hP
        have hD : va_D A ([(qd, .inr (9, [.ref ct, f1, f2, f3, f4, .ref a_firstIn, .ref a_secondIn, f7, f8, .int (nI fg), .ref a_value, f11, f12, .ref a_order, .int (nI no), f15, f16, f17, .int (nI on)])), (a_firstIn, .inl (cI, 300, .inl (nF fi))), (a_secondIn, .inl (cI, 300, .inl (nF si))), (a_value, .inl (cZ, 430, .inl (bF va))), (a_order, .inl (cI, 300, .inl (nF od)))] ++ va_pl L (gE cO G)) := hD
        rw [hai] at w_7
        subst w_7
        have hsi : (sIn ip xs x) = some a := by unfold sIn; rw [if_pos ⟨hneg, by omega⟩, hcl]; exact hai
        obtain ⟨hka, hwa, hoa⟩ := hxw a hsi
        refine pq_cast (ci := 8) (C := R_Wire) (T := F_Wire) (N := 7) hx hb hown (hts _ k_843) (hF.2.2.2.2 _ (List.mem_of_getElem? (i := 3) rfl)) hK hP (gL_m hL hka (by decide)) (gE_2 (G := G) hka) rfl d_Board_setIn_49 ?_
        refine lv_astore_n (lv' := [(3, .ref a), (0, .ref qd), (1, .int (nI kk)), (2, .int y)]) hx hb d_Board_setIn_52 rfl hl (by decide) rfl (fun ls hl => ?_)
        refine lv_iconst (v := nI 0) hx hb d_Board_setIn_53 (by decide) ?_
        refine lv_istore (lv' := [(4, .int (nI 0)), (3, .ref a), (0, .ref qd), (1, .int (nI kk)), (2, .int y)]) hx hb d_Board_setIn_54 hl (by decide) rfl (fun ls hl => ?_)
        refine lp_Board_setIn (F := (drc y (2 + G.2.1 a 4) (G.2.1 a 2) 0 va)) hL hka hwa hoa hfg hx hb hml hown hts hA hF hE hK (fun H locs ls hP hD hS hl => ?_) (G.2.1 a 2 + 1) 0 va _ _ ls (by omega) (by omega) rfl hP hD hS (lv_sub hl [0, 1, 2, 4] rfl)
        refine lv_aload_n hx hb d_Board_setIn_99 rfl (lv_at hl 1 rfl) ?_
        refine we_v (cx := [(qd, .inr (9, [.ref ct, f1, f2, f3, f4, .ref a_firstIn, .ref a_secondIn, f7, f8, .int (nI fg), .ref a_value, f11, f12, .ref a_order, .int (nI no), f15, f16, f17, .int (nI on)])), (a_firstIn, .inl (cI, 300, .inl (nF fi))), (a_secondIn, .inl (cI, 300, .inl (nF si))), (a_value, .inl (cZ, 430, .inl (bF (drc y (2 + G.2.1 a 4) (G.2.1 a 2) 0 va)))), (a_order, .inl (cI, 300, .inl (nF od)))]) (wr := []) (pl := va_pl L (gE cO G)) (va_runV (As := []) (rest := []) ⟨hx, hb, hml, hown, hts⟩ (c_Board_settleW l dC dI cB cI cL cZ cC cO fi si od (drc y (2 + G.2.1 a 4) (G.2.1 a 2) 0 va) fg no _ hno hgd hfg) (cwV 0 hts (good_V k_822 k_824 s_Board_settle k_18 k_825) rfl rfl rfl (by decide +kernel) ⟨Nat.le_of_ble_eq_true rfl, Nat.le_of_ble_eq_true rfl⟩) (wc_preV (k0 := 0) (ci := 9) (r := (R_Board, F_Board, 19)) hK hP hD hS hA hF [0, 1, 2, 3, 4] (by decide) rfl rfl rfl) rfl rfl hl.1 rfl (lv_room (Nat.le_of_ble_eq_true rfl)) d_Board_setIn_100 ⟨Nat.le_of_ble_eq_true rfl, Nat.le_of_ble_eq_true rfl⟩) hP hD hS hA [0, 1, 2, 3, 4] [] rfl rfl (by decide) (by decide) (fun u H locs w_9 hP hD hS => ?_)
        have hP : va_P (dC, dI) cl ([(qd, .inr (9, [.ref ct, f1, f2, f3, f4, .ref a_firstIn, .ref a_secondIn, f7, f8, .int (nI fg), .ref a_value, f11, f12, .ref a_order, .int (nI no), f15, f16, f17, .int (nI u.2)])), (a_firstIn, .inl (cI, 300, .inl (nF fi))), (a_secondIn, .inl (cI, 300, .inl (nF si))), (a_value, .inl (cZ, 430, .inl (bF u.1))), (a_order, .inl (cI, 300, .inl (nF od)))] ++ va_pl L (gE cO G)) H := hP
        have hD : va_D A ([(qd, .inr (9, [.ref ct, f1, f2, f3, f4, .ref a_firstIn, .ref a_secondIn, f7, f8, .int (nI fg), .ref a_value, f11, f12, .ref a_order, .int (nI no), f15, f16, f17, .int (nI u.2)])), (a_firstIn, .inl (cI, 300, .inl (nF fi))), (a_secondIn, .inl (cI, 300, .inl (nF si))), (a_value, .inl (cZ, 430, .inl (bF u.1))), (a_order, .inl (cI, 300, .inl (nF od)))] ++ va_pl L (gE cO G)) := hD
        subst w_9
        have hP : va_P (dC, dI) cl ([(qd, .inr (9, [.ref ct, f1, f2, f3, f4, .ref a_firstIn, .ref a_secondIn, f7, f8, .int (nI fg), .ref a_value, f11, f12, .ref a_order, .int (nI no), f15, f16, f17, .int (nI ((bd_set od fi si fg no 0 ((drc y (2 + G.2.1 a 4) (G.2.1 a 2) 0 va), 0)).2))])), (a_firstIn, .inl (cI, 300, .inl (nF fi))), (a_secondIn, .inl (cI, 300, .inl (nF si))), (a_value, .inl (cZ, 430, .inl (bF ((bd_set od fi si fg no 0 ((drc y (2 + G.2.1 a 4) (G.2.1 a 2) 0 va), 0)).1)))), (a_order, .inl (cI, 300, .inl (nF od)))] ++ va_pl L (gE cO G)) H := hP
        have hD : va_D A ([(qd, .inr (9, [.ref ct, f1, f2, f3, f4, .ref a_firstIn, .ref a_secondIn, f7, f8, .int (nI fg), .ref a_value, f11, f12, .ref a_order, .int (nI no), f15, f16, f17, .int (nI ((bd_set od fi si fg no 0 ((drc y (2 + G.2.1 a 4) (G.2.1 a 2) 0 va), 0)).2))])), (a_firstIn, .inl (cI, 300, .inl (nF fi))), (a_secondIn, .inl (cI, 300, .inl (nF si))), (a_value, .inl (cZ, 430, .inl (bF ((bd_set od fi si fg no 0 ((drc y (2 + G.2.1 a 4) (G.2.1 a 2) 0 va), 0)).1)))), (a_order, .inl (cI, 300, .inl (nF od)))] ++ va_pl L (gE cO G)) := hD
        refine lv_iconst (v := nI 1) hx hb d_Board_setIn_103 (by decide) ?_
        exact wr_z (x := true) hx hb hr hlocks (bd_set od fi si fg no 0 (drc y (2 + G.2.1 a 4) (G.2.1 a 2) 0 va, 0)) ⟨by rw [hsi]; rfl, by rw [hsi]⟩ hK hP hD hS d_Board_setIn_104
      · refine lv_iconst (v := nI 0) hx hb d_Board_setIn_36 (by decide) ?_
        have hsi : (sIn ip xs x) = none := by unfold sIn; rw [if_neg (fun q9 => by have := q9.2; omega)]
        exact wr_z (x := false) hx hb hr hlocks (va, on) ⟨by rw [hsi]; rfl, by rw [hsi]⟩ hK hP hD hS d_Board_setIn_37
set_option maxHeartbeats 4000000 in
set_option maxRecDepth 100000 in
/-- setIn without a board -/
theorem c_Board_setInN (l : Launch) (dC : Nat → ClassId) (dI : Nat → Nat → Nat) (cB cI cL cZ cC cO : ClassId) {qd : Nat}{f1 f2 f3 f4 f5 f6 f7 f8 f9 f10 f11 f12 f13 f14 f15 f16 f17 f18 : Value} (x y : Int32) (sz : Nat)  : Met l y_Board_setIn w_Board_setIn ({ frames := 0, cells := 0, slots := 0, locals := 0 }) (va_Pc [.ref qd, .int x, .int y] (wB (dC, dI) cl [(cB, .byte), (cI, .int), (cL, .long), (cZ, .boolean), (cC, .char), (cO, .object "java/lang/Object")] sz [(qd, .inr (9, [.null, f1, f2, f3, f4, f5, f6, f7, f8, f9, f10, f11, f12, f13, f14, f15, f16, f17, f18]))])) (va_Qi (fun (r : Int32) (u : Unit) => r = bI false) (fun _ t => wA (dC, dI) cl [(cB, .byte), (cI, .int), (cL, .long), (cZ, .boolean), (cC, .char), (cO, .object "java/lang/Object")] (va_A [(qd, .inr (9, [.null, f1, f2, f3, f4, f5, f6, f7, f8, f9, f10, f11, f12, f13, f14, f15, f16, f17, f18]))] sz) [(qd, .inr (9, [.null, f1, f2, f3, f4, f5, f6, f7, f8, f9, f10, f11, f12, f13, f14, f15, f16, f17, f18]))] t) (va_A [(qd, .inr (9, [.null, f1, f2, f3, f4, f5, f6, f7, f8, f9, f10, f11, f12, f13, f14, f15, f16, f17, f18]))] sz)) 0 0 (va_A [(qd, .inr (9, [.null, f1, f2, f3, f4, f5, f6, f7, f8, f9, f10, f11, f12, f13, f14, f15, f16, f17, f18]))] sz) := by
  refine Met.ofW (cc := b_Board_setIn) (maxL := 5) (ret := (some ClassFile.FieldType.boolean)) (by decide) rfl ?_
  intro p e s m args below meth c s₁ B hml hv
  obtain ⟨rfl, hsz, hP, hK, hD0, hF⟩ := hv
  have hx := B.exec
  have hb := B.bytes
  have hr := B.returns
  have hts := atoms_spec (ws := w_Board_setIn) B.pre
  have hts : ∀ w ∈ tb, w.before _ s = true := fun w h => hts w (List.mem_cons_of_mem _ h)
  have hown : s.vm.findClass R_Board = some m.cls := findClass_of_methodNamed B.named
  have hlocks := B.notSynchronized
  subst hsz
  have hD := hD0.self (sz := s.heap.size)
  generalize hAe : va_A [(qd, .inr (9, [.null, f1, f2, f3, f4, f5, f6, f7, f8, f9, f10, f11, f12, f13, f14, f15, f16, f17, f18]))] s.heap.size = A at hD hF ⊢
  have hA : ∀ q : Nat, s.heap.size ≤ q → A q := fun q h => by rw [← hAe]; exact Or.inr h
  have hS : va_S A s.heap s.heap [] := va_S.rf
  have hP : va_P (dC, dI) cl [(qd, .inr (9, [.null, f1, f2, f3, f4, f5, f6, f7, f8, f9, f10, f11, f12, f13, f14, f15, f16, f17, f18]))] s.heap := hP
  have hl := lv_entry ([.ref qd, .int x, .int y]) (n := 5) (Nat.le_of_ble_eq_true rfl)
  rw [lg_entry_eq]
  generalize (lg_sl ([.ref qd, .int x, .int y]) ++ List.replicate (5 - (lg_sl ([.ref qd, .int x, .int y])).length) Slot.unset).toArray = ls at hl ⊢
  have hl : lv_has ls 5 [(0, .ref qd), (1, .int x), (2, .int y)] := hl
  refine lv_aload_n hx hb d_Board_setIn_0 rfl (lv_at hl 0 rfl) ?_
  refine va_get (D := (dC, dI)) (ci := 9) (v := .null) (C := R_Board) (T := F_Board) (N := 19) hx hb hts i_Board hown hK hP 0 rfl rfl 0 (by decide) (hts _ k_373) (fun _ h9 => h9) rfl d_Board_setIn_1 ?_
  refine lv_ifnullN (tgt := 36) hx hb d_Board_setIn_4 (by decide) ?_
  refine lv_iconst (v := nI 0) hx hb d_Board_setIn_36 (by decide) ?_
  exact wr_z (x := false) hx hb hr hlocks () rfl hK hP hD hS d_Board_setIn_37
theorem d_Board_outNumber_0 : decode b_Board_outNumber 0 = .ok (.aload_n 0, 1) := by decide +kernel
theorem d_Board_outNumber_1 : decode b_Board_outNumber 1 = .ok (.getfield 13, 3) := by decide +kernel
theorem d_Board_outNumber_4 : decode b_Board_outNumber 4 = .ok (.ifnull 29, 3) := by decide +kernel
theorem d_Board_outNumber_7 : decode b_Board_outNumber 7 = .ok (.iload_n 1, 1) := by decide +kernel
theorem d_Board_outNumber_8 : decode b_Board_outNumber 8 = .ok (.ifCond .lt 25, 3) := by decide +kernel
theorem d_Board_outNumber_11 : decode b_Board_outNumber 11 = .ok (.iload_n 1, 1) := by decide +kernel
theorem d_Board_outNumber_12 : decode b_Board_outNumber 12 = .ok (.aload_n 0, 1) := by decide +kernel
theorem d_Board_outNumber_13 : decode b_Board_outNumber 13 = .ok (.getfield 13, 3) := by decide +kernel
theorem d_Board_outNumber_16 : decode b_Board_outNumber 16 = .ok (.getfield 192, 3) := by decide +kernel
theorem d_Board_outNumber_19 : decode b_Board_outNumber 19 = .ok (.invokevirtual 106, 3) := by decide +kernel
theorem d_Board_outNumber_22 : decode b_Board_outNumber 22 = .ok (.aload_n 0, 1) := by decide +kernel
theorem d_Board_outNumber_23 : decode b_Board_outNumber 23 = .ok (.getfield 13, 3) := by decide +kernel
theorem d_Board_outNumber_26 : decode b_Board_outNumber 26 = .ok (.getfield 189, 3) := by decide +kernel
theorem d_Board_outNumber_29 : decode b_Board_outNumber 29 = .ok (.isub, 1) := by decide +kernel
theorem d_Board_outNumber_30 : decode b_Board_outNumber 30 = .ok (.if_icmp .lt 5, 3) := by decide +kernel
theorem d_Board_outNumber_33 : decode b_Board_outNumber 33 = .ok (.iconst (-1), 1) := by decide +kernel
theorem d_Board_outNumber_34 : decode b_Board_outNumber 34 = .ok (.ireturn, 1) := by decide +kernel
theorem d_Board_outNumber_35 : decode b_Board_outNumber 35 = .ok (.aload_n 0, 1) := by decide +kernel
theorem d_Board_outNumber_36 : decode b_Board_outNumber 36 = .ok (.getfield 13, 3) := by decide +kernel
theorem d_Board_outNumber_39 : decode b_Board_outNumber 39 = .ok (.getfield 192, 3) := by decide +kernel
theorem d_Board_outNumber_42 : decode b_Board_outNumber 42 = .ok (.aload_n 0, 1) := by decide +kernel
theorem d_Board_outNumber_43 : decode b_Board_outNumber 43 = .ok (.getfield 13, 3) := by decide +kernel
theorem d_Board_outNumber_46 : decode b_Board_outNumber 46 = .ok (.getfield 189, 3) := by decide +kernel
theorem d_Board_outNumber_49 : decode b_Board_outNumber 49 = .ok (.iload_n 1, 1) := by decide +kernel
theorem d_Board_outNumber_50 : decode b_Board_outNumber 50 = .ok (.iadd, 1) := by decide +kernel
theorem d_Board_outNumber_51 : decode b_Board_outNumber 51 = .ok (.invokevirtual 112, 3) := by decide +kernel
theorem d_Board_outNumber_54 : decode b_Board_outNumber 54 = .ok (.checkcast 5, 3) := by decide +kernel
theorem d_Board_outNumber_57 : decode b_Board_outNumber 57 = .ok (.astore_n 2, 1) := by decide +kernel
theorem d_Board_outNumber_58 : decode b_Board_outNumber 58 = .ok (.iconst 0, 1) := by decide +kernel
theorem d_Board_outNumber_59 : decode b_Board_outNumber 59 = .ok (.istore_n 3, 1) := by decide +kernel
theorem d_Board_outNumber_60 : decode b_Board_outNumber 60 = .ok (.iconst 0, 1) := by decide +kernel
theorem d_Board_outNumber_61 : decode b_Board_outNumber 61 = .ok (.istore 4, 2) := by decide +kernel
theorem d_Board_outNumber_63 : decode b_Board_outNumber 63 = .ok (.iload 4, 2) := by decide +kernel
theorem d_Board_outNumber_65 : decode b_Board_outNumber 65 = .ok (.aload_n 2, 1) := by decide +kernel
theorem d_Board_outNumber_66 : decode b_Board_outNumber 66 = .ok (.getfield 154, 3) := by decide +kernel
theorem d_Board_outNumber_69 : decode b_Board_outNumber 69 = .ok (.if_icmp .ge 39, 3) := by decide +kernel
theorem d_Board_outNumber_72 : decode b_Board_outNumber 72 = .ok (.iload_n 3, 1) := by decide +kernel
theorem d_Board_outNumber_73 : decode b_Board_outNumber 73 = .ok (.aload_n 0, 1) := by decide +kernel
theorem d_Board_outNumber_74 : decode b_Board_outNumber 74 = .ok (.getfield 47, 3) := by decide +kernel
theorem d_Board_outNumber_77 : decode b_Board_outNumber 77 = .ok (.aload_n 0, 1) := by decide +kernel
theorem d_Board_outNumber_78 : decode b_Board_outNumber 78 = .ok (.aload_n 2, 1) := by decide +kernel
theorem d_Board_outNumber_79 : decode b_Board_outNumber 79 = .ok (.getfield 142, 3) := by decide +kernel
theorem d_Board_outNumber_82 : decode b_Board_outNumber 82 = .ok (.iload 4, 2) := by decide +kernel
theorem d_Board_outNumber_84 : decode b_Board_outNumber 84 = .ok (.iadd, 1) := by decide +kernel
theorem d_Board_outNumber_85 : decode b_Board_outNumber 85 = .ok (.invokevirtual 173, 3) := by decide +kernel
theorem d_Board_outNumber_88 : decode b_Board_outNumber 88 = .ok (.baload, 1) := by decide +kernel
theorem d_Board_outNumber_89 : decode b_Board_outNumber 89 = .ok (.ifCond .eq 10, 3) := by decide +kernel
theorem d_Board_outNumber_92 : decode b_Board_outNumber 92 = .ok (.iconst 1, 1) := by decide +kernel
theorem d_Board_outNumber_93 : decode b_Board_outNumber 93 = .ok (.iload 4, 2) := by decide +kernel
theorem d_Board_outNumber_95 : decode b_Board_outNumber 95 = .ok (.ishl, 1) := by decide +kernel
theorem d_Board_outNumber_96 : decode b_Board_outNumber 96 = .ok (.goto 4, 3) := by decide +kernel
theorem d_Board_outNumber_99 : decode b_Board_outNumber 99 = .ok (.iconst 0, 1) := by decide +kernel
theorem d_Board_outNumber_100 : decode b_Board_outNumber 100 = .ok (.ior, 1) := by decide +kernel
theorem d_Board_outNumber_101 : decode b_Board_outNumber 101 = .ok (.istore_n 3, 1) := by decide +kernel
theorem d_Board_outNumber_102 : decode b_Board_outNumber 102 = .ok (.iinc 4 1, 3) := by decide +kernel
theorem d_Board_outNumber_105 : decode b_Board_outNumber 105 = .ok (.goto (-42), 3) := by decide +kernel
theorem d_Board_outNumber_108 : decode b_Board_outNumber 108 = .ok (.iload_n 3, 1) := by decide +kernel
theorem d_Board_outNumber_109 : decode b_Board_outNumber 109 = .ok (.ireturn, 1) := by decide +kernel
set_option maxHeartbeats 4000000 in
set_option maxRecDepth 100000 in
/-- outNumber without a board -/
theorem c_Board_outNumberN (l : Launch) (dC : Nat → ClassId) (dI : Nat → Nat → Nat) (cB cI cL cZ cC cO : ClassId) {qd : Nat}{f1 f2 f3 f4 f5 f6 f7 f8 f9 f10 f11 f12 f13 f14 f15 f16 f17 f18 : Value} (x : Int32) (sz : Nat)  : Met l y_Board_outNumber w_Board_outNumber ({ frames := 0, cells := 0, slots := 0, locals := 0 }) (va_Pc [.ref qd, .int x] (wB (dC, dI) cl [(cB, .byte), (cI, .int), (cL, .long), (cZ, .boolean), (cC, .char), (cO, .object "java/lang/Object")] sz [(qd, .inr (9, [.null, f1, f2, f3, f4, f5, f6, f7, f8, f9, f10, f11, f12, f13, f14, f15, f16, f17, f18]))])) (va_Qi (fun (r : Int32) (u : Unit) => r = -1) (fun _ t => wA (dC, dI) cl [(cB, .byte), (cI, .int), (cL, .long), (cZ, .boolean), (cC, .char), (cO, .object "java/lang/Object")] (va_A [(qd, .inr (9, [.null, f1, f2, f3, f4, f5, f6, f7, f8, f9, f10, f11, f12, f13, f14, f15, f16, f17, f18]))] sz) [(qd, .inr (9, [.null, f1, f2, f3, f4, f5, f6, f7, f8, f9, f10, f11, f12, f13, f14, f15, f16, f17, f18]))] t) (va_A [(qd, .inr (9, [.null, f1, f2, f3, f4, f5, f6, f7, f8, f9, f10, f11, f12, f13, f14, f15, f16, f17, f18]))] sz)) 0 0 (va_A [(qd, .inr (9, [.null, f1, f2, f3, f4, f5, f6, f7, f8, f9, f10, f11, f12, f13, f14, f15, f16, f17, f18]))] sz) := by
  refine Met.ofW (cc := b_Board_outNumber) (maxL := 5) (ret := (some ClassFile.FieldType.int)) (by decide) rfl ?_
  intro p e s m args below meth c s₁ B hml hv
  obtain ⟨rfl, hsz, hP, hK, hD0, hF⟩ := hv
  have hx := B.exec
  have hb := B.bytes
  have hr := B.returns
  have hts := atoms_spec (ws := w_Board_outNumber) B.pre
  have hts : ∀ w ∈ tb, w.before _ s = true := fun w h => hts w (List.mem_cons_of_mem _ h)
  have hown : s.vm.findClass R_Board = some m.cls := findClass_of_methodNamed B.named
  have hlocks := B.notSynchronized
  subst hsz
  have hD := hD0.self (sz := s.heap.size)
  generalize hAe : va_A [(qd, .inr (9, [.null, f1, f2, f3, f4, f5, f6, f7, f8, f9, f10, f11, f12, f13, f14, f15, f16, f17, f18]))] s.heap.size = A at hD hF ⊢
  have hA : ∀ q : Nat, s.heap.size ≤ q → A q := fun q h => by rw [← hAe]; exact Or.inr h
  have hS : va_S A s.heap s.heap [] := va_S.rf
  have hP : va_P (dC, dI) cl [(qd, .inr (9, [.null, f1, f2, f3, f4, f5, f6, f7, f8, f9, f10, f11, f12, f13, f14, f15, f16, f17, f18]))] s.heap := hP
  have hl := lv_entry ([.ref qd, .int x]) (n := 5) (Nat.le_of_ble_eq_true rfl)
  rw [lg_entry_eq]
  generalize (lg_sl ([.ref qd, .int x]) ++ List.replicate (5 - (lg_sl ([.ref qd, .int x])).length) Slot.unset).toArray = ls at hl ⊢
  have hl : lv_has ls 5 [(0, .ref qd), (1, .int x)] := hl
  refine lv_aload_n hx hb d_Board_outNumber_0 rfl (lv_at hl 0 rfl) ?_
  refine va_get (D := (dC, dI)) (ci := 9) (v := .null) (C := R_Board) (T := F_Board) (N := 19) hx hb hts i_Board hown hK hP 0 rfl rfl 0 (by decide) (hts _ k_373) (fun _ h9 => h9) rfl d_Board_outNumber_1 ?_
  refine lv_ifnullN (tgt := 33) hx hb d_Board_outNumber_4 (by decide) ?_
  refine lv_iconst (v := (-1)) hx hb d_Board_outNumber_33 (by decide) ?_
  exact wr_i hx hb hr hlocks () rfl hK hP hD hS d_Board_outNumber_34
set_option maxHeartbeats 4000000 in
set_option maxRecDepth 100000 in
theorem lp_Board_outNumber {p : Program} {l : Launch} {e : Env} {s : State} {m : MethodId} {args : Array Value} {below : List Frame} {meth : Method} {c : Code} {Q : State → Prop} {A : Nat → Prop} {dC : Nat → ClassId} {dI : Nat → Nat → Nat} {cB cI cL cZ cC cO : ClassId} {t0 : Nat} {qd a_from a_value : Nat}{f1 f4 f5 f6 f7 f8 f9 f11 f12 f13 f14 f15 f16 f17 f18 : Value} {L : List Nat} {G : PG} {ct a nb : Nat} {fr : Nat → Nat ⊕ Nat} {va : Nat → Bool} {F : Nat} (hL : gL L G) (hka : G.1 a = 2) (hwa : G.2.1 a 2 ≤ 16) (hoa : G.2.1 a 4 + G.2.1 a 2 ≤ 8000) (hnb : nb ≤ 8000) (hfr : ∀ i b, fr i = .inl b → b < 8000) (hfs : ∀ i s, fr i = .inr s → s < 430) (hsg9 : ∀ i, i < G.2.1 a 2 → sgo fr nb (G.2.1 a 4 + i) < 430) (hx : p.tables.exec = Jvm.exec) (hb : c.code = b_Board_outNumber) (hml : c.maxLocals = 5) (hown : s.vm.findClass R_Board = some m.cls) (hts : ∀ w ∈ tb, w.before args s = true) (hA : ∀ q, s.heap.size ≤ q → A q) (hF : stF A s) (hE : stE A t0 s) (hK : va_K (dC, dI) cl [(cB, .byte), (cI, .int), (cL, .long), (cZ, .boolean), (cC, .char), (cO, .object "java/lang/Object")] s)
    (kx : ∀  (H : Heap) (locs : List Loc) (ls : Array Slot), va_P (dC, dI) cl ([(qd, .inr (9, [.ref ct, f1, .ref a_from, .int (nI nb), f4, f5, f6, f7, f8, f9, .ref a_value, f11, f12, f13, f14, f15, f16, f17, f18])), (a_from, .inl (cI, 8000, .inl (xF fr))), (a_value, .inl (cZ, 430, .inl (bF va)))] ++ va_pl L (gE cO G)) H → va_D A ([(qd, .inr (9, [.ref ct, f1, .ref a_from, .int (nI nb), f4, f5, f6, f7, f8, f9, .ref a_value, f11, f12, f13, f14, f15, f16, f17, f18])), (a_from, .inl (cI, 8000, .inl (xF fr))), (a_value, .inl (cZ, 430, .inl (bF va)))] ++ va_pl L (gE cO G)) → va_S A s.heap H locs → lv_has ls 5 [(3, .int (nI F)), (2, .ref a), (0, .ref qd)] → W p l e (headSpec w_Board_outNumber { frames := 4, cells := 0, slots := 0, locals := 220 }).room s m args below meth c H locs 0 0 Q (F0 m 108 ls [])) :
    ∀ (k : Nat) (i v : Nat) (H : Heap) (locs : List Loc) (ls : Array Slot), G.2.1 a 2 < i + k → i ≤ G.2.1 a 2 → v < 2 ^ i → onm (fun i => va (sgo fr nb (G.2.1 a 4 + i))) (G.2.1 a 2 - i) i v = F → va_P (dC, dI) cl ([(qd, .inr (9, [.ref ct, f1, .ref a_from, .int (nI nb), f4, f5, f6, f7, f8, f9, .ref a_value, f11, f12, f13, f14, f15, f16, f17, f18])), (a_from, .inl (cI, 8000, .inl (xF fr))), (a_value, .inl (cZ, 430, .inl (bF va)))] ++ va_pl L (gE cO G)) H → va_D A ([(qd, .inr (9, [.ref ct, f1, .ref a_from, .int (nI nb), f4, f5, f6, f7, f8, f9, .ref a_value, f11, f12, f13, f14, f15, f16, f17, f18])), (a_from, .inl (cI, 8000, .inl (xF fr))), (a_value, .inl (cZ, 430, .inl (bF va)))] ++ va_pl L (gE cO G)) → va_S A s.heap H locs → lv_has ls 5 [(4, .int (nI i)), (3, .int (nI v)), (2, .ref a), (0, .ref qd)] → W p l e (headSpec w_Board_outNumber { frames := 4, cells := 0, slots := 0, locals := 220 }).room s m args below meth c H locs 0 0 Q (F0 m 63 ls []) := by
  intro k
  induction k with
  | zero =>
    intro i v H locs ls hk hi hv hr hP hD hS hl
    exfalso; omega
  | succ k ih =>
    intro i v H locs ls hk hi hv hr hP hD hS hl
    refine lv_iload hx hb d_Board_outNumber_63 (lv_at hl 0 rfl) ?_
    refine lv_aload_n hx hb d_Board_outNumber_65 rfl (lv_at hl 2 rfl) ?_
    refine pq_get (D := (dC, dI)) (ci := 8) (v := .int (nI (G.2.1 a 2))) (C := R_Wire) (T := F_Wire) (N := 7) hx hb hts i_Wire hown hK hP (gL_m hL hka (by decide)) (gE_2 (G := G) hka) rfl 2 (by decide) (hts _ k_223) (fun _ h9 => h9) rfl d_Board_outNumber_66 ?_
    refine nv_icmp_ge (tgt := 108) hx hb (by omega) (by omega) d_Board_outNumber_69 (by decide) (fun c_1 => ?_) (fun c_1 => ?_)
    · have hq : v = F := by rw [← hr, onm_u, if_neg (by omega)]
      subst hq
      exact kx H locs ls hP hD hS (lv_sub hl [1, 2, 3] rfl)
    · refine lv_iload_n hx hb d_Board_outNumber_72 rfl (lv_at hl 1 rfl) ?_
      refine lv_aload_n hx hb d_Board_outNumber_73 rfl (lv_at hl 3 rfl) ?_
      refine va_get (D := (dC, dI)) (ci := 9) (v := .ref a_value) (C := R_Board) (T := F_Board) (N := 19) hx hb hts i_Board hown hK hP 0 rfl rfl 10 (by decide) (hts _ k_383) (fun _ h9 => h9) rfl d_Board_outNumber_74 ?_
      refine lv_aload_n hx hb d_Board_outNumber_77 rfl (lv_at hl 3 rfl) ?_
      refine lv_aload_n hx hb d_Board_outNumber_78 rfl (lv_at hl 2 rfl) ?_
      refine pq_get (D := (dC, dI)) (ci := 8) (v := .int (nI (G.2.1 a 4))) (C := R_Wire) (T := F_Wire) (N := 7) hx hb hts i_Wire hown hK hP (gL_m hL hka (by decide)) (gE_2 (G := G) hka) rfl 4 (by decide) (hts _ k_228) (fun _ h9 => h9) rfl d_Board_outNumber_79 ?_
      refine lv_iload hx hb d_Board_outNumber_82 (lv_at hl 0 rfl) ?_
      refine nv_iadd hx hb d_Board_outNumber_84 ?_
      refine we_i (cx := [(qd, .inr (9, [.ref ct, f1, .ref a_from, .int (nI nb), f4, f5, f6, f7, f8, f9, .ref a_value, f11, f12, f13, f14, f15, f16, f17, f18])), (a_from, .inl (cI, 8000, .inl (xF fr)))]) (wr := [(a_value, .inl (cZ, 430, .inl (bF va)))]) (pl := va_pl L (gE cO G)) (va_runV (As := [.int (nI ((G.2.1 a 4) + i))]) (rest := [.ref a_value, .int (nI v)]) ⟨hx, hb, hml, hown, hts⟩ (c_Board_signalOf l dC dI cB cI cL cZ cC cO fr nb (G.2.1 a 4 + i) _ hnb hfr hfs (by omega)) (cwV 1 hts (good_V k_805 k_807 s_Board_signalOf k_18 k_808) rfl rfl rfl (by decide +kernel) ⟨Nat.le_of_ble_eq_true rfl, Nat.le_of_ble_eq_true rfl⟩) (wc_preV (k0 := 0) (ci := 9) (r := (R_Board, F_Board, 19)) hK hP hD hS hA hF [0, 1] (by decide) rfl rfl rfl) rfl rfl hl.1 rfl (lv_room (Nat.le_of_ble_eq_true rfl)) d_Board_outNumber_85 ⟨Nat.le_of_ble_eq_true rfl, Nat.le_of_ble_eq_true rfl⟩) hP hD hS hA [0, 1] [2] rfl rfl (by decide) (by decide) (fun r_3 _ H locs w_2 hP hD hS => ?_)
      have hP : va_P (dC, dI) cl ([(a_value, .inl (cZ, 430, .inl (bF va))), (qd, .inr (9, [.ref ct, f1, .ref a_from, .int (nI nb), f4, f5, f6, f7, f8, f9, .ref a_value, f11, f12, f13, f14, f15, f16, f17, f18])), (a_from, .inl (cI, 8000, .inl (xF fr)))] ++ va_pl L (gE cO G)) H := hP
      have hD : va_D A ([(a_value, .inl (cZ, 430, .inl (bF va))), (qd, .inr (9, [.ref ct, f1, .ref a_from, .int (nI nb), f4, f5, f6, f7, f8, f9, .ref a_value, f11, f12, f13, f14, f15, f16, f17, f18])), (a_from, .inl (cI, 8000, .inl (xF fr)))] ++ va_pl L (gE cO G)) := hD
      subst w_2
      have hsg : sgo fr nb (G.2.1 a 4 + i) < 430 := hsg9 i (by omega)
      refine nv_zald hx hb hK hP 0 3 rfl rfl hsg (by decide) d_Board_outNumber_88 ?_
      refine nv_bif_eq (tgt := 99) hx hb d_Board_outNumber_89 (by decide) (fun c_4 => ?_) (fun c_4 => ?_)
      · refine lv_iconst (v := nI 0) hx hb d_Board_outNumber_99 (by decide) ?_
        rw [show nI 0 = nI 0 from rfl]
        refine lv_ior hx hb d_Board_outNumber_100 ?_
        rw [or_z]
        refine W.eq (g2 := F0 m 101 ls [.int (nI (v + 0))]) rfl ?_
        refine lv_istore_n (lv' := [(3, .int (nI (v + 0))), (4, .int (nI i)), (2, .ref a), (0, .ref qd)]) hx hb d_Board_outNumber_101 rfl hl (by decide) rfl (fun ls hl => ?_)
        refine lv_iinc (v := nI (i + 1)) (lv' := [(4, .int (nI (i + 1))), (3, .int (nI (v + 0))), (2, .ref a), (0, .ref qd)]) hx hb d_Board_outNumber_102 hl (k := 1) rfl (nI_1 _) (by decide) rfl (fun ls hl => ?_)
        refine lv_goto (tgt := 63) hx hb d_Board_outNumber_105 (by decide) ?_
        have hif : (if va (sgo fr nb (G.2.1 a 4 + i)) = true then 2 ^ i else 0) = 0 := by rw [c_4]; rfl
        have hpw : 2 ^ (i + 1) = 2 ^ i + 2 ^ i := by rw [Nat.pow_succ]; omega
        exact ih (i + 1) (v + 0) H locs ls (by omega) (by omega) (by omega) (by rw [← hr, onm_u _ _ i, if_pos (by omega)]; show _ = onm _ _ _ (v + (if va (sgo fr nb (G.2.1 a 4 + i)) = true then 2 ^ i else 0)); rw [hif]) (hP.part [1, 2, 0] rfl) (hD.part [1, 2, 0] (by decide) rfl) hS (lv_sub hl [0, 1, 2, 3] rfl)
      · refine lv_iconst (v := nI 1) hx hb d_Board_outNumber_92 (by decide) ?_
        refine lv_iload hx hb d_Board_outNumber_93 (lv_at hl 0 rfl) ?_
        refine lv_ishl hx hb d_Board_outNumber_95 ?_
        refine lv_goto (tgt := 100) hx hb d_Board_outNumber_96 (by decide) ?_
        refine lv_ior hx hb d_Board_outNumber_100 ?_
        rw [or_shl (by omega) hv]
        refine W.eq (g2 := F0 m 101 ls [.int (nI (v + 2 ^ i))]) rfl ?_
        refine lv_istore_n (lv' := [(3, .int (nI (v + 2 ^ i))), (4, .int (nI i)), (2, .ref a), (0, .ref qd)]) hx hb d_Board_outNumber_101 rfl hl (by decide) rfl (fun ls hl => ?_)
        refine lv_iinc (v := nI (i + 1)) (lv' := [(4, .int (nI (i + 1))), (3, .int (nI (v + 2 ^ i))), (2, .ref a), (0, .ref qd)]) hx hb d_Board_outNumber_102 hl (k := 1) rfl (nI_1 _) (by decide) rfl (fun ls hl => ?_)
        refine lv_goto (tgt := 63) hx hb d_Board_outNumber_105 (by decide) ?_
        have hif : (if va (sgo fr nb (G.2.1 a 4 + i)) = true then 2 ^ i else 0) = 2 ^ i := by rw [c_4]; rfl
        have hpw : 2 ^ (i + 1) = 2 ^ i + 2 ^ i := by rw [Nat.pow_succ]; omega
        exact ih (i + 1) (v + (2 ^ i)) H locs ls (by omega) (by omega) (by omega) (by rw [← hr, onm_u _ _ i, if_pos (by omega)]; show _ = onm _ _ _ (v + (if va (sgo fr nb (G.2.1 a 4 + i)) = true then 2 ^ i else 0)); rw [hif]) (hP.part [1, 2, 0] rfl) (hD.part [1, 2, 0] (by decide) rfl) hS (lv_sub hl [0, 1, 2, 3] rfl)
set_option maxHeartbeats 4000000 in
set_option maxRecDepth 100000 in
/-- outNumber(x) -/
theorem p_Board_outNumber (l : Launch) (dC : Nat → ClassId) (dI : Nat → Nat → Nat) (cB cI cL cZ cC cO : ClassId) {qd a_from a_value : Nat}{f1 f4 f5 f6 f7 f8 f9 f11 f12 f13 f14 f15 f16 f17 f18 : Value} {L : List Nat} {G : PG} (ct pl ip nb : Nat) (xs : List Nat) (fr : Nat → Nat ⊕ Nat) (va : Nat → Bool) (x : Int32) (t0 sz : Nat) (hL : gL L G) (kct : G.1 ct = 6) (hip : G.2.1 ct 6 = ip) (hpl : G.2.2.2.2.2 ct 3 = some pl) (hls : LSx t0 G pl xs) (hxs : xs.length ≤ 16) (hix : ip ≤ xs.length) (hnb : nb ≤ 8000) (hfr : ∀ i b, fr i = .inl b → b < 8000) (hfs : ∀ i s, fr i = .inr s → s < 430) (hxw : ∀ a, (sOut ip xs x) = some a → G.1 a = 2 ∧ G.2.1 a 2 ≤ 16 ∧ G.2.1 a 4 + G.2.1 a 2 ≤ 8000 ∧ ∀ i, i < G.2.1 a 2 → sgo fr nb (G.2.1 a 4 + i) < 430) : Met l y_Board_outNumber w_Board_outNumber ({ frames := 4, cells := 0, slots := 0, locals := 220 }) (va_Pc [.ref qd, .int x] (wB2 (dC, dI) cl [(cB, .byte), (cI, .int), (cL, .long), (cZ, .boolean), (cC, .char), (cO, .object "java/lang/Object")] sz t0 ([(qd, .inr (9, [.ref ct, f1, .ref a_from, .int (nI nb), f4, f5, f6, f7, f8, f9, .ref a_value, f11, f12, f13, f14, f15, f16, f17, f18])), (a_from, .inl (cI, 8000, .inl (xF fr))), (a_value, .inl (cZ, 430, .inl (bF va)))] ++ va_pl L (gE cO G)))) (va_Qi (fun (r : Int32) (u : Unit) => r = oI ((sOut ip xs x).map (fun a => onm (fun i => va (sgo fr nb (G.2.1 a 4 + i))) (G.2.1 a 2) 0 0))) (fun _ t => wA (dC, dI) cl [(cB, .byte), (cI, .int), (cL, .long), (cZ, .boolean), (cC, .char), (cO, .object "java/lang/Object")] (va_A ([(qd, .inr (9, [.ref ct, f1, .ref a_from, .int (nI nb), f4, f5, f6, f7, f8, f9, .ref a_value, f11, f12, f13, f14, f15, f16, f17, f18])), (a_from, .inl (cI, 8000, .inl (xF fr))), (a_value, .inl (cZ, 430, .inl (bF va)))] ++ va_pl L (gE cO G)) sz) ([(qd, .inr (9, [.ref ct, f1, .ref a_from, .int (nI nb), f4, f5, f6, f7, f8, f9, .ref a_value, f11, f12, f13, f14, f15, f16, f17, f18])), (a_from, .inl (cI, 8000, .inl (xF fr))), (a_value, .inl (cZ, 430, .inl (bF va)))] ++ va_pl L (gE cO G)) t) (va_A ([(qd, .inr (9, [.ref ct, f1, .ref a_from, .int (nI nb), f4, f5, f6, f7, f8, f9, .ref a_value, f11, f12, f13, f14, f15, f16, f17, f18])), (a_from, .inl (cI, 8000, .inl (xF fr))), (a_value, .inl (cZ, 430, .inl (bF va)))] ++ va_pl L (gE cO G)) sz)) 0 0 (va_A ([(qd, .inr (9, [.ref ct, f1, .ref a_from, .int (nI nb), f4, f5, f6, f7, f8, f9, .ref a_value, f11, f12, f13, f14, f15, f16, f17, f18])), (a_from, .inl (cI, 8000, .inl (xF fr))), (a_value, .inl (cZ, 430, .inl (bF va)))] ++ va_pl L (gE cO G)) sz) := by
  refine Met.ofW (cc := b_Board_outNumber) (maxL := 5) (ret := (some ClassFile.FieldType.int)) (by decide) rfl ?_
  intro p e s m args below meth c s₁ B hml hv
  obtain ⟨rfl, ⟨hsz, hP, hK, hD0, hF⟩, hE⟩ := hv
  have hx := B.exec
  have hb := B.bytes
  have hr := B.returns
  have hts := atoms_spec (ws := w_Board_outNumber) B.pre
  have hts : ∀ w ∈ tb, w.before _ s = true := fun w h => hts w (List.mem_cons_of_mem _ h)
  have hown : s.vm.findClass R_Board = some m.cls := findClass_of_methodNamed B.named
  have hlocks := B.notSynchronized
  subst hsz
  have hD := hD0.self (sz := s.heap.size)
  generalize hAe : va_A ([(qd, .inr (9, [.ref ct, f1, .ref a_from, .int (nI nb), f4, f5, f6, f7, f8, f9, .ref a_value, f11, f12, f13, f14, f15, f16, f17, f18])), (a_from, .inl (cI, 8000, .inl (xF fr))), (a_value, .inl (cZ, 430, .inl (bF va)))] ++ va_pl L (gE cO G)) s.heap.size = A at hD hF hE ⊢
  have hA : ∀ q : Nat, s.heap.size ≤ q → A q := fun q h => by rw [← hAe]; exact Or.inr h
  have hS : va_S A s.heap s.heap [] := va_S.rf
  have hP : va_P (dC, dI) cl ([(qd, .inr (9, [.ref ct, f1, .ref a_from, .int (nI nb), f4, f5, f6, f7, f8, f9, .ref a_value, f11, f12, f13, f14, f15, f16, f17, f18])), (a_from, .inl (cI, 8000, .inl (xF fr))), (a_value, .inl (cZ, 430, .inl (bF va)))] ++ va_pl L (gE cO G)) s.heap := hP
  have hl := lv_entry ([.ref qd, .int x]) (n := 5) (Nat.le_of_ble_eq_true rfl)
  rw [lg_entry_eq]
  generalize (lg_sl ([.ref qd, .int x]) ++ List.replicate (5 - (lg_sl ([.ref qd, .int x])).length) Slot.unset).toArray = ls at hl ⊢
  have hl : lv_has ls 5 [(0, .ref qd), (1, .int x)] := hl
  by_cases hneg : x < 0
  · have hng9 := hneg
    refine lv_aload_n hx hb d_Board_outNumber_0 rfl (lv_at hl 0 rfl) ?_
    refine va_get (D := (dC, dI)) (ci := 9) (v := .ref ct) (C := R_Board) (T := F_Board) (N := 19) hx hb hts i_Board hown hK hP 0 rfl rfl 0 (by decide) (hts _ k_373) (fun _ h9 => h9) rfl d_Board_outNumber_1 ?_
    refine lv_ifnull hx hb d_Board_outNumber_4 ?_
    refine lv_iload_n hx hb d_Board_outNumber_7 rfl (lv_at hl 1 rfl) ?_
    refine lv_if_lt (tgt := 33) hx hb d_Board_outNumber_8 (by decide) (fun c_1 => ?_) (fun c_1 => ?_)
    · refine lv_iconst (v := (-1)) hx hb d_Board_outNumber_33 (by decide) ?_
      have hso : (sOut ip xs x) = none := by unfold sOut; rw [if_neg (fun q9 => q9.1 hneg)]
      exact wr_i hx hb hr hlocks () (by rw [hso]; rfl) hK hP hD hS d_Board_outNumber_34
    · exact absurd hneg c_1
  · obtain ⟨kk, hkk, hxk⟩ := nI_of hneg
    have hcl : x.toNatClampNeg = kk := by rw [hxk, nI_clamp hkk]
    rw [hxk] at hl
    have hl : lv_has ls 5 [(0, .ref qd), (1, .int (nI kk))] := hl
    refine lv_aload_n hx hb d_Board_outNumber_0 rfl (lv_at hl 0 rfl) ?_
    refine va_get (D := (dC, dI)) (ci := 9) (v := .ref ct) (C := R_Board) (T := F_Board) (N := 19) hx hb hts i_Board hown hK hP 0 rfl rfl 0 (by decide) (hts _ k_373) (fun _ h9 => h9) rfl d_Board_outNumber_1 ?_
    refine lv_ifnull hx hb d_Board_outNumber_4 ?_
    refine lv_iload_n hx hb d_Board_outNumber_7 rfl (lv_at hl 1 rfl) ?_
    refine nv_if_lt (tgt := 33) hx hb (by omega) d_Board_outNumber_8 (by decide) ?_
    refine lv_iload_n hx hb d_Board_outNumber_11 rfl (lv_at hl 1 rfl) ?_
    refine lv_aload_n hx hb d_Board_outNumber_12 rfl (lv_at hl 0 rfl) ?_
    refine va_get (D := (dC, dI)) (ci := 9) (v := .ref ct) (C := R_Board) (T := F_Board) (N := 19) hx hb hts i_Board hown hK hP 0 rfl rfl 0 (by decide) (hts _ k_373) (fun _ h9 => h9) rfl d_Board_outNumber_13 ?_
    refine pq_get (D := (dC, dI)) (ci := 6) (v := .ref pl) (C := R_Chip) (T := F_Chip) (N := 9) hx hb hts i_Chip hown hK hP (gL_m hL kct (by decide)) (gE_6 (G := G) kct) rfl 3 (by decide) (hts _ k_175) (fun _ h9 => h9) (congrArg (fun z9 => some (va_rf z9)) hpl) d_Board_outNumber_16 ?_
    refine wd_i (cx := []) (wr := [(qd, .inr (9, [.ref ct, f1, .ref a_from, .int (nI nb), f4, f5, f6, f7, f8, f9, .ref a_value, f11, f12, f13, f14, f15, f16, f17, f18])), (a_from, .inl (cI, 8000, .inl (xF fr))), (a_value, .inl (cZ, 430, .inl (bF va)))]) (pl := va_pl L (gE cO G)) (va_runV (As := []) (rest := [.int (nI kk)]) ⟨hx, hb, hml, hown, hts⟩ (p_List_size l dC dI cB cI cL cZ cC cO (G := G) pl t0 _ hL hls.k.1) (cwV 0 hts (good_V k_784 k_325 k_326 k_7 k_327) rfl rfl rfl (by decide +kernel) ⟨Nat.le_of_ble_eq_true rfl, Nat.le_of_ble_eq_true rfl⟩) (wd_preV (ci := 4) (r := (R_List, F_List, 3)) hK hP hD hS hA hF hE [] (by decide) rfl rfl (pq_at (gL_m hL hls.k.1 (by decide)) (gE_7 (G := G) hls.k.1))) rfl rfl hl.1 rfl (lv_room (Nat.le_of_ble_eq_true rfl)) d_Board_outNumber_19 ⟨Nat.le_of_ble_eq_true rfl, Nat.le_of_ble_eq_true rfl⟩) hP hD hS hA [] [0, 1, 2] rfl rfl (by decide) (by decide) (fun r_4 _ H locs w_3 hP hD hS => ?_)
    have hP : va_P (dC, dI) cl ([(qd, .inr (9, [.ref ct, f1, .ref a_from, .int (nI nb), f4, f5, f6, f7, f8, f9, .ref a_value, f11, f12, f13, f14, f15, f16, f17, f18])), (a_from, .inl (cI, 8000, .inl (xF fr))), (a_value, .inl (cZ, 430, .inl (bF va)))] ++ va_pl L (gE cO G)) H := hP
    have hD : va_D A ([(qd, .inr (9, [.ref ct, f1, .ref a_from, .int (nI nb), f4, f5, f6, f7, f8, f9, .ref a_value, f11, f12, f13, f14, f15, f16, f17, f18])), (a_from, .inl (cI, 8000, .inl (xF fr))), (a_value, .inl (cZ, 430, .inl (bF va)))] ++ va_pl L (gE cO G)) := hD
    rw [hls.k.2] at w_3
    subst w_3
    refine lv_aload_n hx hb d_Board_outNumber_22 rfl (lv_at hl 0 rfl) ?_
    refine va_get (D := (dC, dI)) (ci := 9) (v := .ref ct) (C := R_Board) (T := F_Board) (N := 19) hx hb hts i_Board hown hK hP 0 rfl rfl 0 (by decide) (hts _ k_373) (fun _ h9 => h9) rfl d_Board_outNumber_23 ?_
    refine pq_get (D := (dC, dI)) (ci := 6) (v := .int (nI ip)) (C := R_Chip) (T := F_Chip) (N := 9) hx hb hts i_Chip hown hK hP (gL_m hL kct (by decide)) (gE_6 (G := G) kct) rfl 6 (by decide) (hts _ k_183) (fun _ h9 => h9) (congrArg (fun z9 => some (Value.int (nI z9))) hip) d_Board_outNumber_26 ?_
    refine nv_isub hx hb (by omega) d_Board_outNumber_29 ?_
    refine nv_icmp_lt (tgt := 35) hx hb (by omega) (by omega) d_Board_outNumber_30 (by decide) (fun c_5 => ?_) (fun c_5 => ?_)
    · refine lv_aload_n hx hb d_Board_outNumber_35 rfl (lv_at hl 0 rfl) ?_
      refine va_get (D := (dC, dI)) (ci := 9) (v := .ref ct) (C := R_Board) (T := F_Board) (N := 19) hx hb hts i_Board hown hK hP 0 rfl rfl 0 (by decide) (hts _ k_373) (fun _ h9 => h9) rfl d_Board_outNumber_36 ?_
      refine pq_get (D := (dC, dI)) (ci := 6) (v := .ref pl) (C := R_Chip) (T := F_Chip) (N := 9) hx hb hts i_Chip hown hK hP (gL_m hL kct (by decide)) (gE_6 (G := G) kct) rfl 3 (by decide) (hts _ k_175) (fun _ h9 => h9) (congrArg (fun z9 => some (va_rf z9)) hpl) d_Board_outNumber_39 ?_
      refine lv_aload_n hx hb d_Board_outNumber_42 rfl (lv_at hl 0 rfl) ?_
      refine va_get (D := (dC, dI)) (ci := 9) (v := .ref ct) (C := R_Board) (T := F_Board) (N := 19) hx hb hts i_Board hown hK hP 0 rfl rfl 0 (by decide) (hts _ k_373) (fun _ h9 => h9) rfl d_Board_outNumber_43 ?_
      refine pq_get (D := (dC, dI)) (ci := 6) (v := .int (nI ip)) (C := R_Chip) (T := F_Chip) (N := 9) hx hb hts i_Chip hown hK hP (gL_m hL kct (by decide)) (gE_6 (G := G) kct) rfl 6 (by decide) (hts _ k_183) (fun _ h9 => h9) (congrArg (fun z9 => some (Value.int (nI z9))) hip) d_Board_outNumber_46 ?_
      refine lv_iload_n hx hb d_Board_outNumber_49 rfl (lv_at hl 1 rfl) ?_
      refine nv_iadd hx hb d_Board_outNumber_50 ?_
      obtain ⟨a, hai⟩ : ∃ z, xs[ip + kk]? = some z := ⟨_, List.getElem?_eq_getElem (by omega)⟩
      refine wd_q (cx := []) (wr := [(qd, .inr (9, [.ref ct, f1, .ref a_from, .int (nI nb), f4, f5, f6, f7, f8, f9, .ref a_value, f11, f12, f13, f14, f15, f16, f17, f18])), (a_from, .inl (cI, 8000, .inl (xF fr))), (a_value, .inl (cZ, 430, .inl (bF va)))]) (pl := va_pl L (gE cO G)) (va_runV (As := [.int (nI (ip + kk))]) (rest := []) ⟨hx, hb, hml, hown, hts⟩ (p_List_get l dC dI cB cI cL cZ cC cO (G := G) pl (ip + kk) xs t0 _ hL hls (by omega)) (cwV 1 hts (good_V k_785 k_329 k_330 k_7 k_331) rfl rfl rfl (by decide +kernel) ⟨Nat.le_of_ble_eq_true rfl, Nat.le_of_ble_eq_true rfl⟩) (wd_preV (ci := 4) (r := (R_List, F_List, 3)) hK hP hD hS hA hF hE [] (by decide) rfl rfl (pq_at (gL_m hL hls.k.1 (by decide)) (gE_7 (G := G) hls.k.1))) rfl rfl hl.1 rfl (lv_room (Nat.le_of_ble_eq_true rfl)) d_Board_outNumber_51 ⟨Nat.le_of_ble_eq_true rfl, Nat.le_of_ble_eq_true rfl⟩) hP hD hS hA [] [0, 1, 2] rfl rfl (by decide) (by decide) (fun r_7 _ H locs w_6 hP hD hS => ?_)
      have hP : va_P (dC, dI) cl ([(qd, .inr (9, [.ref ct, f1, .ref a_from, .int (nI nb), f4, f5, f6, f7, f8, f9, .ref a_value, f11, f12, f13, f14, f15, f16, f17, f18])), (a_from, .inl (cI, 8000, .inl (xF fr))), (a_value, .inl (cZ, 430, .inl (bF va)))] ++ va_pl L (gE cO G)) H := hP
      have hD : va_D A ([(qd, .inr (9, [.ref ct, f1, .ref a_from, .int (nI nb), f4, f5, f6, f7, f8, f9, .ref a_value, f11, f12, f13, f14, f15, f16, f17, f18])), (a_from, .inl (cI, 8000, .inl (xF fr))), (a_value, .inl (cZ, 430, .inl (bF va)))] ++ va_pl L (gE cO G)) := hD
      rw [hai] at w_6
      subst w_6
      have hso : (sOut ip xs x) = some a := by unfold sOut; rw [if_pos ⟨hneg, by omega⟩, hcl]; exact hai
      obtain ⟨hka, hwa, hoa, hsg9⟩ := hxw a hso
      refine pq_cast (ci := 8) (C := R_Wire) (T := F_Wire) (N := 7) hx hb hown (hts _ k_843) (hF.2.2.2.2 _ (List.mem_of_getElem? (i := 3) rfl)) hK hP (gL_m hL hka (by decide)) (gE_2 (G := G) hka) rfl d_Board_outNumber_54 ?_
      refine lv_astore_n (lv' := [(2, .ref a), (0, .ref qd), (1, .int (nI kk))]) hx hb d_Board_outNumber_57 rfl hl (by decide) rfl (fun ls hl => ?_)
      refine lv_iconst (v := nI 0) hx hb d_Board_outNumber_58 (by decide) ?_
      refine lv_istore_n (lv' := [(3, .int (nI 0)), (2, .ref a), (0, .ref qd), (1, .int (nI kk))]) hx hb d_Board_outNumber_59 rfl hl (by decide) rfl (fun ls hl => ?_)
      refine lv_iconst (v := nI 0) hx hb d_Board_outNumber_60 (by decide) ?_
      refine lv_istore (lv' := [(4, .int (nI 0)), (3, .int (nI 0)), (2, .ref a), (0, .ref qd), (1, .int (nI kk))]) hx hb d_Board_outNumber_61 hl (by decide) rfl (fun ls hl => ?_)
      refine lp_Board_outNumber (F := (onm (fun i => va (sgo fr nb (G.2.1 a 4 + i))) (G.2.1 a 2) 0 0)) hL hka hwa hoa hnb hfr hfs hsg9 hx hb hml hown hts hA hF hE hK (fun H locs ls hP hD hS hl => ?_) (G.2.1 a 2 + 1) 0 0 _ _ ls (by omega) (by omega) (by decide) rfl hP hD hS (lv_sub hl [0, 1, 2, 3] rfl)
      refine lv_iload_n hx hb d_Board_outNumber_108 rfl (lv_at hl 0 rfl) ?_
      exact wr_i hx hb hr hlocks () (by rw [hso]; rfl) hK hP hD hS d_Board_outNumber_109
    · refine lv_iconst (v := (-1)) hx hb d_Board_outNumber_33 (by decide) ?_
      have hso : (sOut ip xs x) = none := by unfold sOut; rw [if_neg (fun q9 => by have := q9.2; omega)]
      exact wr_i hx hb hr hlocks () (by rw [hso]; rfl) hK hP hD hS d_Board_outNumber_34
theorem d_Board_count_0 : decode b_Board_count 0 = .ok (.aload_n 0, 1) := by decide +kernel
theorem d_Board_count_1 : decode b_Board_count 1 = .ok (.getfield 13, 3) := by decide +kernel
theorem d_Board_count_4 : decode b_Board_count 4 = .ok (.ifnonnull 5, 3) := by decide +kernel
theorem d_Board_count_7 : decode b_Board_count 7 = .ok (.iconst (-1), 1) := by decide +kernel
theorem d_Board_count_8 : decode b_Board_count 8 = .ok (.ireturn, 1) := by decide +kernel
theorem d_Board_count_9 : decode b_Board_count 9 = .ok (.iload_n 1, 1) := by decide +kernel
theorem d_Board_count_10 : decode b_Board_count 10 = .ok (.tableswitch 108 0 7 #[46, 51, 61, 69, 88, 93, 98, 103], 46) := by decide +kernel
theorem d_Board_count_56 : decode b_Board_count 56 = .ok (.aload_n 0, 1) := by decide +kernel
theorem d_Board_count_57 : decode b_Board_count 57 = .ok (.getfield 41, 3) := by decide +kernel
theorem d_Board_count_60 : decode b_Board_count 60 = .ok (.ireturn, 1) := by decide +kernel
theorem d_Board_count_61 : decode b_Board_count 61 = .ok (.aload_n 0, 1) := by decide +kernel
theorem d_Board_count_62 : decode b_Board_count 62 = .ok (.getfield 38, 3) := by decide +kernel
theorem d_Board_count_65 : decode b_Board_count 65 = .ok (.aload_n 0, 1) := by decide +kernel
theorem d_Board_count_66 : decode b_Board_count 66 = .ok (.getfield 41, 3) := by decide +kernel
theorem d_Board_count_69 : decode b_Board_count 69 = .ok (.isub, 1) := by decide +kernel
theorem d_Board_count_70 : decode b_Board_count 70 = .ok (.ireturn, 1) := by decide +kernel
theorem d_Board_count_71 : decode b_Board_count 71 = .ok (.aload_n 0, 1) := by decide +kernel
theorem d_Board_count_72 : decode b_Board_count 72 = .ok (.getfield 13, 3) := by decide +kernel
theorem d_Board_count_75 : decode b_Board_count 75 = .ok (.getfield 189, 3) := by decide +kernel
theorem d_Board_count_78 : decode b_Board_count 78 = .ok (.ireturn, 1) := by decide +kernel
theorem d_Board_count_79 : decode b_Board_count 79 = .ok (.aload_n 0, 1) := by decide +kernel
theorem d_Board_count_80 : decode b_Board_count 80 = .ok (.getfield 13, 3) := by decide +kernel
theorem d_Board_count_83 : decode b_Board_count 83 = .ok (.getfield 192, 3) := by decide +kernel
theorem d_Board_count_86 : decode b_Board_count 86 = .ok (.invokevirtual 106, 3) := by decide +kernel
theorem d_Board_count_89 : decode b_Board_count 89 = .ok (.aload_n 0, 1) := by decide +kernel
theorem d_Board_count_90 : decode b_Board_count 90 = .ok (.getfield 13, 3) := by decide +kernel
theorem d_Board_count_93 : decode b_Board_count 93 = .ok (.getfield 189, 3) := by decide +kernel
theorem d_Board_count_96 : decode b_Board_count 96 = .ok (.isub, 1) := by decide +kernel
theorem d_Board_count_97 : decode b_Board_count 97 = .ok (.ireturn, 1) := by decide +kernel
theorem d_Board_count_98 : decode b_Board_count 98 = .ok (.aload_n 0, 1) := by decide +kernel
theorem d_Board_count_99 : decode b_Board_count 99 = .ok (.getfield 17, 3) := by decide +kernel
theorem d_Board_count_102 : decode b_Board_count 102 = .ok (.ireturn, 1) := by decide +kernel
theorem d_Board_count_103 : decode b_Board_count 103 = .ok (.aload_n 0, 1) := by decide +kernel
theorem d_Board_count_104 : decode b_Board_count 104 = .ok (.getfield 53, 3) := by decide +kernel
theorem d_Board_count_107 : decode b_Board_count 107 = .ok (.ireturn, 1) := by decide +kernel
theorem d_Board_count_108 : decode b_Board_count 108 = .ok (.aload_n 0, 1) := by decide +kernel
theorem d_Board_count_109 : decode b_Board_count 109 = .ok (.getfield 68, 3) := by decide +kernel
theorem d_Board_count_112 : decode b_Board_count 112 = .ok (.ireturn, 1) := by decide +kernel
theorem d_Board_count_113 : decode b_Board_count 113 = .ok (.aload_n 0, 1) := by decide +kernel
theorem d_Board_count_114 : decode b_Board_count 114 = .ok (.getfield 71, 3) := by decide +kernel
theorem d_Board_count_117 : decode b_Board_count 117 = .ok (.ireturn, 1) := by decide +kernel
theorem d_Board_count_118 : decode b_Board_count 118 = .ok (.iconst (-1), 1) := by decide +kernel
theorem d_Board_count_119 : decode b_Board_count 119 = .ok (.ireturn, 1) := by decide +kernel
set_option maxHeartbeats 4000000 in
set_option maxRecDepth 100000 in
/-- count without a board -/
theorem c_Board_countN (l : Launch) (dC : Nat → ClassId) (dI : Nat → Nat → Nat) (cB cI cL cZ cC cO : ClassId) {qd : Nat}{f1 f2 f3 f4 f5 f6 f7 f8 f9 f10 f11 f12 f13 f14 f15 f16 f17 f18 : Value} (x : Int32) (sz : Nat)  : Met l y_Board_count w_Board_count ({ frames := 0, cells := 0, slots := 0, locals := 0 }) (va_Pc [.ref qd, .int x] (wB (dC, dI) cl [(cB, .byte), (cI, .int), (cL, .long), (cZ, .boolean), (cC, .char), (cO, .object "java/lang/Object")] sz [(qd, .inr (9, [.null, f1, f2, f3, f4, f5, f6, f7, f8, f9, f10, f11, f12, f13, f14, f15, f16, f17, f18]))])) (va_Qi (fun (r : Int32) (u : Unit) => r = -1) (fun _ t => wA (dC, dI) cl [(cB, .byte), (cI, .int), (cL, .long), (cZ, .boolean), (cC, .char), (cO, .object "java/lang/Object")] (va_A [(qd, .inr (9, [.null, f1, f2, f3, f4, f5, f6, f7, f8, f9, f10, f11, f12, f13, f14, f15, f16, f17, f18]))] sz) [(qd, .inr (9, [.null, f1, f2, f3, f4, f5, f6, f7, f8, f9, f10, f11, f12, f13, f14, f15, f16, f17, f18]))] t) (va_A [(qd, .inr (9, [.null, f1, f2, f3, f4, f5, f6, f7, f8, f9, f10, f11, f12, f13, f14, f15, f16, f17, f18]))] sz)) 0 0 (va_A [(qd, .inr (9, [.null, f1, f2, f3, f4, f5, f6, f7, f8, f9, f10, f11, f12, f13, f14, f15, f16, f17, f18]))] sz) := by
  refine Met.ofW (cc := b_Board_count) (maxL := 2) (ret := (some ClassFile.FieldType.int)) (by decide) rfl ?_
  intro p e s m args below meth c s₁ B hml hv
  obtain ⟨rfl, hsz, hP, hK, hD0, hF⟩ := hv
  have hx := B.exec
  have hb := B.bytes
  have hr := B.returns
  have hts := atoms_spec (ws := w_Board_count) B.pre
  have hts : ∀ w ∈ tb, w.before _ s = true := fun w h => hts w (List.mem_cons_of_mem _ h)
  have hown : s.vm.findClass R_Board = some m.cls := findClass_of_methodNamed B.named
  have hlocks := B.notSynchronized
  subst hsz
  have hD := hD0.self (sz := s.heap.size)
  generalize hAe : va_A [(qd, .inr (9, [.null, f1, f2, f3, f4, f5, f6, f7, f8, f9, f10, f11, f12, f13, f14, f15, f16, f17, f18]))] s.heap.size = A at hD hF ⊢
  have hA : ∀ q : Nat, s.heap.size ≤ q → A q := fun q h => by rw [← hAe]; exact Or.inr h
  have hS : va_S A s.heap s.heap [] := va_S.rf
  have hP : va_P (dC, dI) cl [(qd, .inr (9, [.null, f1, f2, f3, f4, f5, f6, f7, f8, f9, f10, f11, f12, f13, f14, f15, f16, f17, f18]))] s.heap := hP
  have hl := lv_entry ([.ref qd, .int x]) (n := 2) (Nat.le_of_ble_eq_true rfl)
  rw [lg_entry_eq]
  generalize (lg_sl ([.ref qd, .int x]) ++ List.replicate (2 - (lg_sl ([.ref qd, .int x])).length) Slot.unset).toArray = ls at hl ⊢
  have hl : lv_has ls 2 [(0, .ref qd), (1, .int x)] := hl
  refine lv_aload_n hx hb d_Board_count_0 rfl (lv_at hl 0 rfl) ?_
  refine va_get (D := (dC, dI)) (ci := 9) (v := .null) (C := R_Board) (T := F_Board) (N := 19) hx hb hts i_Board hown hK hP 0 rfl rfl 0 (by decide) (hts _ k_373) (fun _ h9 => h9) rfl d_Board_count_1 ?_
  refine lv_ifnonnullN hx hb d_Board_count_4 ?_
  refine lv_iconst (v := (-1)) hx hb d_Board_count_7 (by decide) ?_
  exact wr_i hx hb hr hlocks () rfl hK hP hD hS d_Board_count_8
theorem tab_out {x : Int32} (h : ¬ (¬ x < 0 ∧ x ≤ nI 7)) : x.toInt < 0 ∨ 7 < x.toInt := by
  by_cases q : x < 0
  · exact .inl (Int32.lt_iff_toInt_lt.mp q)
  · exact .inr (by
      have h1 : ¬ x ≤ nI 7 := fun e => h ⟨q, e⟩
      have h2 : ¬ x.toInt ≤ (nI 7).toInt := fun e => h1 (Int32.le_iff_toInt_le.mpr e)
      have h3 : (nI 7).toInt = 7 := by decide
      omega)
set_option maxHeartbeats 4000000 in
set_option maxRecDepth 100000 in
/-- count(x) -/
theorem p_Board_count (l : Launch) (dC : Nat → ClassId) (dI : Nat → Nat → Nat) (cB cI cL cZ cC cO : ClassId) {qd : Nat}{f2 f3 f4 f5 f6 f9 f10 f11 f13 f14 f15 f16 : Value} {L : List Nat} {G : PG} (ct pl ip cc ng nn dp tk on : Nat) (xs : List Nat) (x : Int32) (t0 sz : Nat) (hL : gL L G) (kct : G.1 ct = 6) (hip : G.2.1 ct 6 = ip) (hpl : G.2.2.2.2.2 ct 3 = some pl) (hls : LSx t0 G pl xs) (hxs : xs.length ≤ 16) (hix : ip ≤ xs.length) (hnn : nn ≤ ng) (hng : ng ≤ 300) : Met l y_Board_count w_Board_count ({ frames := 4, cells := 0, slots := 0, locals := 220 }) (va_Pc [.ref qd, .int x] (wB2 (dC, dI) cl [(cB, .byte), (cI, .int), (cL, .long), (cZ, .boolean), (cC, .char), (cO, .object "java/lang/Object")] sz t0 ([(qd, .inr (9, [.ref ct, .int (nI cc), f2, f3, f4, f5, f6, .int (nI ng), .int (nI nn), f9, f10, f11, .int (nI dp), f13, f14, f15, f16, .int (nI tk), .int (nI on)]))] ++ va_pl L (gE cO G)))) (va_Qi (fun (r : Int32) (u : Unit) => r = (if ¬ x < 0 ∧ x ≤ nI 7 then nI (gsel nn ng ip (xs.length - ip) cc tk (on, dp) x.toNatClampNeg) else -1)) (fun _ t => wA (dC, dI) cl [(cB, .byte), (cI, .int), (cL, .long), (cZ, .boolean), (cC, .char), (cO, .object "java/lang/Object")] (va_A ([(qd, .inr (9, [.ref ct, .int (nI cc), f2, f3, f4, f5, f6, .int (nI ng), .int (nI nn), f9, f10, f11, .int (nI dp), f13, f14, f15, f16, .int (nI tk), .int (nI on)]))] ++ va_pl L (gE cO G)) sz) ([(qd, .inr (9, [.ref ct, .int (nI cc), f2, f3, f4, f5, f6, .int (nI ng), .int (nI nn), f9, f10, f11, .int (nI dp), f13, f14, f15, f16, .int (nI tk), .int (nI on)]))] ++ va_pl L (gE cO G)) t) (va_A ([(qd, .inr (9, [.ref ct, .int (nI cc), f2, f3, f4, f5, f6, .int (nI ng), .int (nI nn), f9, f10, f11, .int (nI dp), f13, f14, f15, f16, .int (nI tk), .int (nI on)]))] ++ va_pl L (gE cO G)) sz)) 0 0 (va_A ([(qd, .inr (9, [.ref ct, .int (nI cc), f2, f3, f4, f5, f6, .int (nI ng), .int (nI nn), f9, f10, f11, .int (nI dp), f13, f14, f15, f16, .int (nI tk), .int (nI on)]))] ++ va_pl L (gE cO G)) sz) := by
  refine Met.ofW (cc := b_Board_count) (maxL := 2) (ret := (some ClassFile.FieldType.int)) (by decide) rfl ?_
  intro p e s m args below meth c s₁ B hml hv
  obtain ⟨rfl, ⟨hsz, hP, hK, hD0, hF⟩, hE⟩ := hv
  have hx := B.exec
  have hb := B.bytes
  have hr := B.returns
  have hts := atoms_spec (ws := w_Board_count) B.pre
  have hts : ∀ w ∈ tb, w.before _ s = true := fun w h => hts w (List.mem_cons_of_mem _ h)
  have hown : s.vm.findClass R_Board = some m.cls := findClass_of_methodNamed B.named
  have hlocks := B.notSynchronized
  subst hsz
  have hD := hD0.self (sz := s.heap.size)
  generalize hAe : va_A ([(qd, .inr (9, [.ref ct, .int (nI cc), f2, f3, f4, f5, f6, .int (nI ng), .int (nI nn), f9, f10, f11, .int (nI dp), f13, f14, f15, f16, .int (nI tk), .int (nI on)]))] ++ va_pl L (gE cO G)) s.heap.size = A at hD hF hE ⊢
  have hA : ∀ q : Nat, s.heap.size ≤ q → A q := fun q h => by rw [← hAe]; exact Or.inr h
  have hS : va_S A s.heap s.heap [] := va_S.rf
  have hP : va_P (dC, dI) cl ([(qd, .inr (9, [.ref ct, .int (nI cc), f2, f3, f4, f5, f6, .int (nI ng), .int (nI nn), f9, f10, f11, .int (nI dp), f13, f14, f15, f16, .int (nI tk), .int (nI on)]))] ++ va_pl L (gE cO G)) s.heap := hP
  have hl := lv_entry ([.ref qd, .int x]) (n := 2) (Nat.le_of_ble_eq_true rfl)
  rw [lg_entry_eq]
  generalize (lg_sl ([.ref qd, .int x]) ++ List.replicate (2 - (lg_sl ([.ref qd, .int x])).length) Slot.unset).toArray = ls at hl ⊢
  have hl : lv_has ls 2 [(0, .ref qd), (1, .int x)] := hl
  refine lv_aload_n hx hb d_Board_count_0 rfl (lv_at hl 0 rfl) ?_
  refine va_get (D := (dC, dI)) (ci := 9) (v := .ref ct) (C := R_Board) (T := F_Board) (N := 19) hx hb hts i_Board hown hK hP 0 rfl rfl 0 (by decide) (hts _ k_373) (fun _ h9 => h9) rfl d_Board_count_1 ?_
  refine lv_ifnonnull (tgt := 9) hx hb d_Board_count_4 (by decide) ?_
  by_cases hok : ¬ x < 0 ∧ x ≤ nI 7
  · obtain ⟨n, hn, hxn⟩ := nI_of2 (M := nI 7) (n := 7) (by decide) hok.1 hok.2
    subst hxn
    have hcl : (nI n).toNatClampNeg = n := nI_clamp (by omega)
    rcases (show n = 0 ∨ n = 1 ∨ n = 2 ∨ n = 3 ∨ n = 4 ∨ n = 5 ∨ n = 6 ∨ n = 7 by omega) with hn0 | hn0 | hn0 | hn0 | hn0 | hn0 | hn0 | hn0
    · subst hn0
      refine lv_iload_n hx hb d_Board_count_9 rfl (lv_at hl 1 rfl) ?_
      refine lv_tableIn (off := 46) (tgt := 56) hx hb d_Board_count_10 (by decide) (by decide) (by decide) (by decide) ?_
      refine lv_aload_n hx hb d_Board_count_56 rfl (lv_at hl 0 rfl) ?_
      refine va_get (D := (dC, dI)) (ci := 9) (v := .int (nI nn)) (C := R_Board) (T := F_Board) (N := 19) hx hb hts i_Board hown hK hP 0 rfl rfl 8 (by decide) (hts _ k_381) (fun _ h9 => h9) rfl d_Board_count_57 ?_
      exact wr_i hx hb hr hlocks () (by rw [if_pos hok, hcl]; rfl) hK hP hD hS d_Board_count_60
    · subst hn0
      refine lv_iload_n hx hb d_Board_count_9 rfl (lv_at hl 1 rfl) ?_
      refine lv_tableIn (off := 51) (tgt := 61) hx hb d_Board_count_10 (by decide) (by decide) (by decide) (by decide) ?_
      refine lv_aload_n hx hb d_Board_count_61 rfl (lv_at hl 0 rfl) ?_
      refine va_get (D := (dC, dI)) (ci := 9) (v := .int (nI ng)) (C := R_Board) (T := F_Board) (N := 19) hx hb hts i_Board hown hK hP 0 rfl rfl 7 (by decide) (hts _ k_380) (fun _ h9 => h9) rfl d_Board_count_62 ?_
      refine lv_aload_n hx hb d_Board_count_65 rfl (lv_at hl 0 rfl) ?_
      refine va_get (D := (dC, dI)) (ci := 9) (v := .int (nI nn)) (C := R_Board) (T := F_Board) (N := 19) hx hb hts i_Board hown hK hP 0 rfl rfl 8 (by decide) (hts _ k_381) (fun _ h9 => h9) rfl d_Board_count_66 ?_
      refine nv_isub hx hb (by omega) d_Board_count_69 ?_
      exact wr_i hx hb hr hlocks () (by rw [if_pos hok, hcl]; rfl) hK hP hD hS d_Board_count_70
    · subst hn0
      refine lv_iload_n hx hb d_Board_count_9 rfl (lv_at hl 1 rfl) ?_
      refine lv_tableIn (off := 61) (tgt := 71) hx hb d_Board_count_10 (by decide) (by decide) (by decide) (by decide) ?_
      refine lv_aload_n hx hb d_Board_count_71 rfl (lv_at hl 0 rfl) ?_
      refine va_get (D := (dC, dI)) (ci := 9) (v := .ref ct) (C := R_Board) (T := F_Board) (N := 19) hx hb hts i_Board hown hK hP 0 rfl rfl 0 (by decide) (hts _ k_373) (fun _ h9 => h9) rfl d_Board_count_72 ?_
      refine pq_get (D := (dC, dI)) (ci := 6) (v := .int (nI ip)) (C := R_Chip) (T := F_Chip) (N := 9) hx hb hts i_Chip hown hK hP (gL_m hL kct (by decide)) (gE_6 (G := G) kct) rfl 6 (by decide) (hts _ k_183) (fun _ h9 => h9) (congrArg (fun z9 => some (Value.int (nI z9))) hip) d_Board_count_75 ?_
      exact wr_i hx hb hr hlocks () (by rw [if_pos hok, hcl]; rfl) hK hP hD hS d_Board_count_78
    · subst hn0
      refine lv_iload_n hx hb d_Board_count_9 rfl (lv_at hl 1 rfl) ?_
      refine lv_tableIn (off := 69) (tgt := 79) hx hb d_Board_count_10 (by decide) (by decide) (by decide) (by decide) ?_
      refine lv_aload_n hx hb d_Board_count_79 rfl (lv_at hl 0 rfl) ?_
      refine va_get (D := (dC, dI)) (ci := 9) (v := .ref ct) (C := R_Board) (T := F_Board) (N := 19) hx hb hts i_Board hown hK hP 0 rfl rfl 0 (by decide) (hts _ k_373) (fun _ h9 => h9) rfl d_Board_count_80 ?_
      refine pq_get (D := (dC, dI)) (ci := 6) (v := .ref pl) (C := R_Chip) (T := F_Chip) (N := 9) hx hb hts i_Chip hown hK hP (gL_m hL kct (by decide)) (gE_6 (G := G) kct) rfl 3 (by decide) (hts _ k_175) (fun _ h9 => h9) (congrArg (fun z9 => some (va_rf z9)) hpl) d_Board_count_83 ?_
      refine wd_i (cx := []) (wr := [(qd, .inr (9, [.ref ct, .int (nI cc), f2, f3, f4, f5, f6, .int (nI ng), .int (nI nn), f9, f10, f11, .int (nI dp), f13, f14, f15, f16, .int (nI tk), .int (nI on)]))]) (pl := va_pl L (gE cO G)) (va_runV (As := []) (rest := []) ⟨hx, hb, hml, hown, hts⟩ (p_List_size l dC dI cB cI cL cZ cC cO (G := G) pl t0 _ hL hls.k.1) (cwV 0 hts (good_V k_784 k_325 k_326 k_7 k_327) rfl rfl rfl (by decide +kernel) ⟨Nat.le_of_ble_eq_true rfl, Nat.le_of_ble_eq_true rfl⟩) (wd_preV (ci := 4) (r := (R_List, F_List, 3)) hK hP hD hS hA hF hE [] (by decide) rfl rfl (pq_at (gL_m hL hls.k.1 (by decide)) (gE_7 (G := G) hls.k.1))) rfl rfl hl.1 rfl (lv_room (Nat.le_of_ble_eq_true rfl)) d_Board_count_86 ⟨Nat.le_of_ble_eq_true rfl, Nat.le_of_ble_eq_true rfl⟩) hP hD hS hA [] [0] rfl rfl (by decide) (by decide) (fun r_2 _ H locs w_1 hP hD hS => ?_)
      have hP : va_P (dC, dI) cl ([(qd, .inr (9, [.ref ct, .int (nI cc), f2, f3, f4, f5, f6, .int (nI ng), .int (nI nn), f9, f10, f11, .int (nI dp), f13, f14, f15, f16, .int (nI tk), .int (nI on)]))] ++ va_pl L (gE cO G)) H := hP
      have hD : va_D A ([(qd, .inr (9, [.ref ct, .int (nI cc), f2, f3, f4, f5, f6, .int (nI ng), .int (nI nn), f9, f10, f11, .int (nI dp), f13, f14, f15, f16, .int (nI tk), .int (nI on)]))] ++ va_pl L (gE cO G)) := hD
      rw [hls.k.2] at w_1
      subst w_1
      refine lv_aload_n hx hb d_Board_count_89 rfl (lv_at hl 0 rfl) ?_
      refine va_get (D := (dC, dI)) (ci := 9) (v := .ref ct) (C := R_Board) (T := F_Board) (N := 19) hx hb hts i_Board hown hK hP 0 rfl rfl 0 (by decide) (hts _ k_373) (fun _ h9 => h9) rfl d_Board_count_90 ?_
      refine pq_get (D := (dC, dI)) (ci := 6) (v := .int (nI ip)) (C := R_Chip) (T := F_Chip) (N := 9) hx hb hts i_Chip hown hK hP (gL_m hL kct (by decide)) (gE_6 (G := G) kct) rfl 6 (by decide) (hts _ k_183) (fun _ h9 => h9) (congrArg (fun z9 => some (Value.int (nI z9))) hip) d_Board_count_93 ?_
      refine nv_isub hx hb (by omega) d_Board_count_96 ?_
      exact wr_i hx hb hr hlocks () (by rw [if_pos hok, hcl]; rfl) hK hP hD hS d_Board_count_97
    · subst hn0
      refine lv_iload_n hx hb d_Board_count_9 rfl (lv_at hl 1 rfl) ?_
      refine lv_tableIn (off := 88) (tgt := 98) hx hb d_Board_count_10 (by decide) (by decide) (by decide) (by decide) ?_
      refine lv_aload_n hx hb d_Board_count_98 rfl (lv_at hl 0 rfl) ?_
      refine va_get (D := (dC, dI)) (ci := 9) (v := .int (nI cc)) (C := R_Board) (T := F_Board) (N := 19) hx hb hts i_Board hown hK hP 0 rfl rfl 1 (by decide) (hts _ k_374) (fun _ h9 => h9) rfl d_Board_count_99 ?_
      exact wr_i hx hb hr hlocks () (by rw [if_pos hok, hcl]; rfl) hK hP hD hS d_Board_count_102
    · subst hn0
      refine lv_iload_n hx hb d_Board_count_9 rfl (lv_at hl 1 rfl) ?_
      refine lv_tableIn (off := 93) (tgt := 103) hx hb d_Board_count_10 (by decide) (by decide) (by decide) (by decide) ?_
      refine lv_aload_n hx hb d_Board_count_103 rfl (lv_at hl 0 rfl) ?_
      refine va_get (D := (dC, dI)) (ci := 9) (v := .int (nI dp)) (C := R_Board) (T := F_Board) (N := 19) hx hb hts i_Board hown hK hP 0 rfl rfl 12 (by decide) (hts _ k_385) (fun _ h9 => h9) rfl d_Board_count_104 ?_
      exact wr_i hx hb hr hlocks () (by rw [if_pos hok, hcl]; rfl) hK hP hD hS d_Board_count_107
    · subst hn0
      refine lv_iload_n hx hb d_Board_count_9 rfl (lv_at hl 1 rfl) ?_
      refine lv_tableIn (off := 98) (tgt := 108) hx hb d_Board_count_10 (by decide) (by decide) (by decide) (by decide) ?_
      refine lv_aload_n hx hb d_Board_count_108 rfl (lv_at hl 0 rfl) ?_
      refine va_get (D := (dC, dI)) (ci := 9) (v := .int (nI tk)) (C := R_Board) (T := F_Board) (N := 19) hx hb hts i_Board hown hK hP 0 rfl rfl 17 (by decide) (hts _ k_390) (fun _ h9 => h9) rfl d_Board_count_109 ?_
      exact wr_i hx hb hr hlocks () (by rw [if_pos hok, hcl]; rfl) hK hP hD hS d_Board_count_112
    · subst hn0
      refine lv_iload_n hx hb d_Board_count_9 rfl (lv_at hl 1 rfl) ?_
      refine lv_tableIn (off := 103) (tgt := 113) hx hb d_Board_count_10 (by decide) (by decide) (by decide) (by decide) ?_
      refine lv_aload_n hx hb d_Board_count_113 rfl (lv_at hl 0 rfl) ?_
      refine va_get (D := (dC, dI)) (ci := 9) (v := .int (nI on)) (C := R_Board) (T := F_Board) (N := 19) hx hb hts i_Board hown hK hP 0 rfl rfl 18 (by decide) (hts _ k_391) (fun _ h9 => h9) rfl d_Board_count_114 ?_
      exact wr_i hx hb hr hlocks () (by rw [if_pos hok, hcl]; rfl) hK hP hD hS d_Board_count_117
  · refine lv_iload_n hx hb d_Board_count_9 rfl (lv_at hl 1 rfl) ?_
    refine lv_tableOut (tgt := 118) hx hb d_Board_count_10 (tab_out hok) (by decide) ?_
    refine lv_iconst (v := (-1)) hx hb d_Board_count_118 (by decide) ?_
    exact wr_i hx hb hr hlocks () (by rw [if_neg hok]) hK hP hD hS d_Board_count_119
