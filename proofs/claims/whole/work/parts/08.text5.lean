theorem tx_wend_u (b : Nat → Int32) (n i : Nat) : tx_wend b (n - i) i = if i < n then (if tx_wordb (b i) = true then tx_wend b (n - (i + 1)) (i + 1) else i) else i := by
  by_cases h : i < n
  · rw [if_pos h, show n - i = (n - (i + 1)) + 1 by omega]; rfl
  · rw [if_neg h, show n - i = 0 by omega]; rfl
theorem tx_wend_le (b : Nat → Int32) : ∀ k i, tx_wend b k i ≤ i + k
  | 0, i => Nat.le_refl i
  | k + 1, i => by
    show (if tx_wordb (b i) = true then tx_wend b k (i + 1) else i) ≤ i + (k + 1)
    split
    · have := tx_wend_le b k (i + 1); omega
    · omega
def tk_end (b : Nat → Int32) (n i : Nat) : Nat := if n ≤ i then i else if i < tx_wend b (n - i) i then tx_wend b (n - i) i else if b i = nI 46 ∧ i + 1 < n ∧ b (i + 1) = nI 46 then i + 2 else i + 1
def tk_kind (b : Nat → Int32) (n i : Nat) : Int32 := if n ≤ i then nI 0 else if i < tx_wend b (n - i) i then (if tx_digit (b i) = true then nI (tx_numk b i (tx_wend b (n - i) i)) else nI (tx_wk b i (tx_wend b (n - i) i))) else if b i = nI 46 ∧ i + 1 < n ∧ b (i + 1) = nI 46 then nI 5 else if tx_sign (b i) = true then b i else nI 1
def tk_num (b : Nat → Int32) (n i t : Nat) (fn : Nat → Int32) : Nat → Int32 := if n ≤ i then fn else if i < tx_wend b (n - i) i then (if tx_digit (b i) = true then tx_numf b i (tx_wend b (n - i) i) t fn else fn) else fn
def tk_hd (b : Nat → Int32) (n i t : Nat) (fh : Nat → Int64) : Nat → Int64 := if n ≤ i then fh else if i < tx_wend b (n - i) i then (if tx_digit (b i) = true then fh else tx_wh b i (tx_wend b (n - i) i) t fh) else fh
def tk_tl (b : Nat → Int32) (n i t : Nat) (fl : Nat → Int64) : Nat → Int64 := if n ≤ i then fl else if i < tx_wend b (n - i) i then (if tx_digit (b i) = true then fl else tx_wl b i (tx_wend b (n - i) i) t fl) else fl
theorem d_Text_scanToken_0 : decode b_Text_scanToken 0 = .ok (.iload_n 2, 1) := by decide +kernel
theorem d_Text_scanToken_1 : decode b_Text_scanToken 1 = .ok (.aload_n 0, 1) := by decide +kernel
theorem d_Text_scanToken_2 : decode b_Text_scanToken 2 = .ok (.getfield 13, 3) := by decide +kernel
theorem d_Text_scanToken_5 : decode b_Text_scanToken 5 = .ok (.if_icmp .lt 12, 3) := by decide +kernel
theorem d_Text_scanToken_8 : decode b_Text_scanToken 8 = .ok (.aload_n 0, 1) := by decide +kernel
theorem d_Text_scanToken_9 : decode b_Text_scanToken 9 = .ok (.getfield 17, 3) := by decide +kernel
theorem d_Text_scanToken_12 : decode b_Text_scanToken 12 = .ok (.iload_n 1, 1) := by decide +kernel
theorem d_Text_scanToken_13 : decode b_Text_scanToken 13 = .ok (.iconst 0, 1) := by decide +kernel
theorem d_Text_scanToken_14 : decode b_Text_scanToken 14 = .ok (.iastore, 1) := by decide +kernel
theorem d_Text_scanToken_15 : decode b_Text_scanToken 15 = .ok (.iload_n 2, 1) := by decide +kernel
theorem d_Text_scanToken_16 : decode b_Text_scanToken 16 = .ok (.ireturn, 1) := by decide +kernel
theorem d_Text_scanToken_17 : decode b_Text_scanToken 17 = .ok (.iload_n 2, 1) := by decide +kernel
theorem d_Text_scanToken_18 : decode b_Text_scanToken 18 = .ok (.istore_n 3, 1) := by decide +kernel
theorem d_Text_scanToken_19 : decode b_Text_scanToken 19 = .ok (.iload_n 3, 1) := by decide +kernel
theorem d_Text_scanToken_20 : decode b_Text_scanToken 20 = .ok (.aload_n 0, 1) := by decide +kernel
theorem d_Text_scanToken_21 : decode b_Text_scanToken 21 = .ok (.getfield 13, 3) := by decide +kernel
theorem d_Text_scanToken_24 : decode b_Text_scanToken 24 = .ok (.if_icmp .ge 21, 3) := by decide +kernel
theorem d_Text_scanToken_27 : decode b_Text_scanToken 27 = .ok (.aload_n 0, 1) := by decide +kernel
theorem d_Text_scanToken_28 : decode b_Text_scanToken 28 = .ok (.getfield 9, 3) := by decide +kernel
theorem d_Text_scanToken_31 : decode b_Text_scanToken 31 = .ok (.iload_n 3, 1) := by decide +kernel
theorem d_Text_scanToken_32 : decode b_Text_scanToken 32 = .ok (.baload, 1) := by decide +kernel
theorem d_Text_scanToken_33 : decode b_Text_scanToken 33 = .ok (.invokestatic 51, 3) := by decide +kernel
theorem d_Text_scanToken_36 : decode b_Text_scanToken 36 = .ok (.ifCond .eq 9, 3) := by decide +kernel
theorem d_Text_scanToken_39 : decode b_Text_scanToken 39 = .ok (.iinc 3 1, 3) := by decide +kernel
theorem d_Text_scanToken_42 : decode b_Text_scanToken 42 = .ok (.goto (-23), 3) := by decide +kernel
theorem d_Text_scanToken_45 : decode b_Text_scanToken 45 = .ok (.iload_n 3, 1) := by decide +kernel
theorem d_Text_scanToken_46 : decode b_Text_scanToken 46 = .ok (.iload_n 2, 1) := by decide +kernel
theorem d_Text_scanToken_47 : decode b_Text_scanToken 47 = .ok (.if_icmp .le 40, 3) := by decide +kernel
theorem d_Text_scanToken_50 : decode b_Text_scanToken 50 = .ok (.aload_n 0, 1) := by decide +kernel
theorem d_Text_scanToken_51 : decode b_Text_scanToken 51 = .ok (.getfield 17, 3) := by decide +kernel
theorem d_Text_scanToken_54 : decode b_Text_scanToken 54 = .ok (.iload_n 1, 1) := by decide +kernel
theorem d_Text_scanToken_55 : decode b_Text_scanToken 55 = .ok (.aload_n 0, 1) := by decide +kernel
theorem d_Text_scanToken_56 : decode b_Text_scanToken 56 = .ok (.getfield 9, 3) := by decide +kernel
theorem d_Text_scanToken_59 : decode b_Text_scanToken 59 = .ok (.iload_n 2, 1) := by decide +kernel
theorem d_Text_scanToken_60 : decode b_Text_scanToken 60 = .ok (.baload, 1) := by decide +kernel
theorem d_Text_scanToken_61 : decode b_Text_scanToken 61 = .ok (.invokestatic 55, 3) := by decide +kernel
theorem d_Text_scanToken_64 : decode b_Text_scanToken 64 = .ok (.ifCond .eq 13, 3) := by decide +kernel
theorem d_Text_scanToken_67 : decode b_Text_scanToken 67 = .ok (.aload_n 0, 1) := by decide +kernel
theorem d_Text_scanToken_68 : decode b_Text_scanToken 68 = .ok (.iload_n 1, 1) := by decide +kernel
theorem d_Text_scanToken_69 : decode b_Text_scanToken 69 = .ok (.iload_n 2, 1) := by decide +kernel
theorem d_Text_scanToken_70 : decode b_Text_scanToken 70 = .ok (.iload_n 3, 1) := by decide +kernel
theorem d_Text_scanToken_71 : decode b_Text_scanToken 71 = .ok (.invokevirtual 58, 3) := by decide +kernel
theorem d_Text_scanToken_74 : decode b_Text_scanToken 74 = .ok (.goto 10, 3) := by decide +kernel
theorem d_Text_scanToken_77 : decode b_Text_scanToken 77 = .ok (.aload_n 0, 1) := by decide +kernel
theorem d_Text_scanToken_78 : decode b_Text_scanToken 78 = .ok (.iload_n 1, 1) := by decide +kernel
theorem d_Text_scanToken_79 : decode b_Text_scanToken 79 = .ok (.iload_n 2, 1) := by decide +kernel
theorem d_Text_scanToken_80 : decode b_Text_scanToken 80 = .ok (.iload_n 3, 1) := by decide +kernel
theorem d_Text_scanToken_81 : decode b_Text_scanToken 81 = .ok (.invokevirtual 62, 3) := by decide +kernel
theorem d_Text_scanToken_84 : decode b_Text_scanToken 84 = .ok (.iastore, 1) := by decide +kernel
theorem d_Text_scanToken_85 : decode b_Text_scanToken 85 = .ok (.iload_n 3, 1) := by decide +kernel
theorem d_Text_scanToken_86 : decode b_Text_scanToken 86 = .ok (.ireturn, 1) := by decide +kernel
theorem d_Text_scanToken_87 : decode b_Text_scanToken 87 = .ok (.aload_n 0, 1) := by decide +kernel
theorem d_Text_scanToken_88 : decode b_Text_scanToken 88 = .ok (.getfield 9, 3) := by decide +kernel
theorem d_Text_scanToken_91 : decode b_Text_scanToken 91 = .ok (.iload_n 2, 1) := by decide +kernel
theorem d_Text_scanToken_92 : decode b_Text_scanToken 92 = .ok (.baload, 1) := by decide +kernel
theorem d_Text_scanToken_93 : decode b_Text_scanToken 93 = .ok (.bipush 46, 2) := by decide +kernel
theorem d_Text_scanToken_95 : decode b_Text_scanToken 95 = .ok (.if_icmp .ne 37, 3) := by decide +kernel
theorem d_Text_scanToken_98 : decode b_Text_scanToken 98 = .ok (.iload_n 2, 1) := by decide +kernel
theorem d_Text_scanToken_99 : decode b_Text_scanToken 99 = .ok (.iconst 1, 1) := by decide +kernel
theorem d_Text_scanToken_100 : decode b_Text_scanToken 100 = .ok (.iadd, 1) := by decide +kernel
theorem d_Text_scanToken_101 : decode b_Text_scanToken 101 = .ok (.aload_n 0, 1) := by decide +kernel
theorem d_Text_scanToken_102 : decode b_Text_scanToken 102 = .ok (.getfield 13, 3) := by decide +kernel
theorem d_Text_scanToken_105 : decode b_Text_scanToken 105 = .ok (.if_icmp .ge 27, 3) := by decide +kernel
theorem d_Text_scanToken_108 : decode b_Text_scanToken 108 = .ok (.aload_n 0, 1) := by decide +kernel
theorem d_Text_scanToken_109 : decode b_Text_scanToken 109 = .ok (.getfield 9, 3) := by decide +kernel
theorem d_Text_scanToken_112 : decode b_Text_scanToken 112 = .ok (.iload_n 2, 1) := by decide +kernel
theorem d_Text_scanToken_113 : decode b_Text_scanToken 113 = .ok (.iconst 1, 1) := by decide +kernel
theorem d_Text_scanToken_114 : decode b_Text_scanToken 114 = .ok (.iadd, 1) := by decide +kernel
theorem d_Text_scanToken_115 : decode b_Text_scanToken 115 = .ok (.baload, 1) := by decide +kernel
theorem d_Text_scanToken_116 : decode b_Text_scanToken 116 = .ok (.bipush 46, 2) := by decide +kernel
theorem d_Text_scanToken_118 : decode b_Text_scanToken 118 = .ok (.if_icmp .ne 14, 3) := by decide +kernel
theorem d_Text_scanToken_121 : decode b_Text_scanToken 121 = .ok (.aload_n 0, 1) := by decide +kernel
theorem d_Text_scanToken_122 : decode b_Text_scanToken 122 = .ok (.getfield 17, 3) := by decide +kernel
theorem d_Text_scanToken_125 : decode b_Text_scanToken 125 = .ok (.iload_n 1, 1) := by decide +kernel
theorem d_Text_scanToken_126 : decode b_Text_scanToken 126 = .ok (.iconst 5, 1) := by decide +kernel
theorem d_Text_scanToken_127 : decode b_Text_scanToken 127 = .ok (.iastore, 1) := by decide +kernel
theorem d_Text_scanToken_128 : decode b_Text_scanToken 128 = .ok (.iload_n 2, 1) := by decide +kernel
theorem d_Text_scanToken_129 : decode b_Text_scanToken 129 = .ok (.iconst 2, 1) := by decide +kernel
theorem d_Text_scanToken_130 : decode b_Text_scanToken 130 = .ok (.iadd, 1) := by decide +kernel
theorem d_Text_scanToken_131 : decode b_Text_scanToken 131 = .ok (.ireturn, 1) := by decide +kernel
theorem d_Text_scanToken_132 : decode b_Text_scanToken 132 = .ok (.aload_n 0, 1) := by decide +kernel
theorem d_Text_scanToken_133 : decode b_Text_scanToken 133 = .ok (.getfield 17, 3) := by decide +kernel
theorem d_Text_scanToken_136 : decode b_Text_scanToken 136 = .ok (.iload_n 1, 1) := by decide +kernel
theorem d_Text_scanToken_137 : decode b_Text_scanToken 137 = .ok (.aload_n 0, 1) := by decide +kernel
theorem d_Text_scanToken_138 : decode b_Text_scanToken 138 = .ok (.getfield 9, 3) := by decide +kernel
theorem d_Text_scanToken_141 : decode b_Text_scanToken 141 = .ok (.iload_n 2, 1) := by decide +kernel
theorem d_Text_scanToken_142 : decode b_Text_scanToken 142 = .ok (.baload, 1) := by decide +kernel
theorem d_Text_scanToken_143 : decode b_Text_scanToken 143 = .ok (.invokestatic 65, 3) := by decide +kernel
theorem d_Text_scanToken_146 : decode b_Text_scanToken 146 = .ok (.ifCond .eq 12, 3) := by decide +kernel
theorem d_Text_scanToken_149 : decode b_Text_scanToken 149 = .ok (.aload_n 0, 1) := by decide +kernel
theorem d_Text_scanToken_150 : decode b_Text_scanToken 150 = .ok (.getfield 9, 3) := by decide +kernel
theorem d_Text_scanToken_153 : decode b_Text_scanToken 153 = .ok (.iload_n 2, 1) := by decide +kernel
theorem d_Text_scanToken_154 : decode b_Text_scanToken 154 = .ok (.baload, 1) := by decide +kernel
theorem d_Text_scanToken_155 : decode b_Text_scanToken 155 = .ok (.goto 4, 3) := by decide +kernel
theorem d_Text_scanToken_158 : decode b_Text_scanToken 158 = .ok (.iconst 1, 1) := by decide +kernel
theorem d_Text_scanToken_159 : decode b_Text_scanToken 159 = .ok (.iastore, 1) := by decide +kernel
theorem d_Text_scanToken_160 : decode b_Text_scanToken 160 = .ok (.iload_n 2, 1) := by decide +kernel
theorem d_Text_scanToken_161 : decode b_Text_scanToken 161 = .ok (.iconst 1, 1) := by decide +kernel
theorem d_Text_scanToken_162 : decode b_Text_scanToken 162 = .ok (.iadd, 1) := by decide +kernel
theorem d_Text_scanToken_163 : decode b_Text_scanToken 163 = .ok (.ireturn, 1) := by decide +kernel
set_option maxHeartbeats 4000000 in
set_option maxRecDepth 100000 in
theorem lp_Text_scanToken {p : Program} {l : Launch} {e : Env} {s : State} {m : MethodId} {args : Array Value} {below : List Frame} {meth : Method} {c : Code} {Q : State → Prop} {A : Nat → Prop} {dC : Nat → ClassId} {dI : Nat → Nat → Nat} {cB cI cL cZ cC cO : ClassId} {qt qb qk qp qn qh ql : Nat} {fb fk fn : Nat → Int32} {fh fl : Nat → Int64} {n t i : Nat} {eF : Nat} (hn : n ≤ 2000) (hx : p.tables.exec = Jvm.exec) (hb : c.code = b_Text_scanToken) (hml : c.maxLocals = 4) (hown : s.vm.findClass R_Text = some m.cls) (hts : ∀ w ∈ tb, w.before args s = true) (hA : ∀ q, s.heap.size ≤ q → A q) (hF : stF A s) (hK : va_K (dC, dI) cl [(cB, .byte), (cI, .int), (cL, .long), (cZ, .boolean), (cC, .char), (cO, .object "java/lang/Object")] s)
    (kx : ∀  (H : Heap) (locs : List Loc) (ls : Array Slot), va_P (dC, dI) cl [(qt, .inr (1, [.ref qb, .int (nI n), .ref qk, .ref qp, .ref qn, .ref qh, .ref ql])), (qb, .inl (cB, 2000, .inl fb)), (qk, .inl (cI, 1001, .inl fk)), (qn, .inl (cI, 1001, .inl fn)), (qh, .inl (cL, 1001, .inr (.inl fh))), (ql, .inl (cL, 1001, .inr (.inl fl)))] H → va_D A [(qt, .inr (1, [.ref qb, .int (nI n), .ref qk, .ref qp, .ref qn, .ref qh, .ref ql])), (qb, .inl (cB, 2000, .inl fb)), (qk, .inl (cI, 1001, .inl fk)), (qn, .inl (cI, 1001, .inl fn)), (qh, .inl (cL, 1001, .inr (.inl fh))), (ql, .inl (cL, 1001, .inr (.inl fl)))] → va_S A s.heap H locs → lv_has ls 4 [(3, .int (nI eF)), (0, .ref qt), (1, .int (nI t)), (2, .int (nI i))] → W p l e (headSpec w_Text_scanToken { frames := 2, cells := 0, slots := 0, locals := 60 }).room s m args below meth c H locs 0 0 Q (F0 m 45 ls [])) :
    ∀ (k : Nat) (x : Nat) (H : Heap) (locs : List Loc) (ls : Array Slot), n < x + k → x ≤ n → tx_wend fb (n - x) x = eF → va_P (dC, dI) cl [(qt, .inr (1, [.ref qb, .int (nI n), .ref qk, .ref qp, .ref qn, .ref qh, .ref ql])), (qb, .inl (cB, 2000, .inl fb)), (qk, .inl (cI, 1001, .inl fk)), (qn, .inl (cI, 1001, .inl fn)), (qh, .inl (cL, 1001, .inr (.inl fh))), (ql, .inl (cL, 1001, .inr (.inl fl)))] H → va_D A [(qt, .inr (1, [.ref qb, .int (nI n), .ref qk, .ref qp, .ref qn, .ref qh, .ref ql])), (qb, .inl (cB, 2000, .inl fb)), (qk, .inl (cI, 1001, .inl fk)), (qn, .inl (cI, 1001, .inl fn)), (qh, .inl (cL, 1001, .inr (.inl fh))), (ql, .inl (cL, 1001, .inr (.inl fl)))] → va_S A s.heap H locs → lv_has ls 4 [(3, .int (nI x)), (0, .ref qt), (1, .int (nI t)), (2, .int (nI i))] → W p l e (headSpec w_Text_scanToken { frames := 2, cells := 0, slots := 0, locals := 60 }).room s m args below meth c H locs 0 0 Q (F0 m 19 ls []) := by
  intro k
  induction k with
  | zero =>
    intro x H locs ls hk hi hr hP hD hS hl
    exfalso; omega
  | succ k ih =>
    intro x H locs ls hk hi hr hP hD hS hl
    refine lv_iload_n hx hb d_Text_scanToken_19 rfl (lv_at hl 0 rfl) ?_
    refine lv_aload_n hx hb d_Text_scanToken_20 rfl (lv_at hl 1 rfl) ?_
    refine va_get (D := (dC, dI)) (ci := 1) (v := .int (nI n)) (C := R_Text) (T := F_Text) (N := 7) hx hb hts i_Text hown hK hP 0 rfl rfl 1 (by decide) (hts _ k_38) (fun _ h9 => h9) rfl d_Text_scanToken_21 ?_
    refine nv_icmp_ge (tgt := 45) hx hb (by omega) (by omega) d_Text_scanToken_24 (by decide) (fun c_1 => ?_) (fun c_1 => ?_)
    · have hz : eF = x := by first | (rw [← hr, tx_wend_u, if_neg (by omega)]) | (rw [← hr, tx_wend_u, if_pos (by omega), if_neg (by rw [c_1]; decide)])
      subst hz
      exact kx H locs ls hP hD hS (lv_sub hl [0, 1, 2, 3] rfl)
    · refine lv_aload_n hx hb d_Text_scanToken_27 rfl (lv_at hl 1 rfl) ?_
      refine va_get (D := (dC, dI)) (ci := 1) (v := .ref qb) (C := R_Text) (T := F_Text) (N := 7) hx hb hts i_Text hown hK hP 0 rfl rfl 0 (by decide) (hts _ k_37) (fun _ h9 => h9) rfl d_Text_scanToken_28 ?_
      refine lv_iload_n hx hb d_Text_scanToken_31 rfl (lv_at hl 0 rfl) ?_
      refine nv_bald hx hb hK hP 1 0 rfl rfl (by omega) (by decide) d_Text_scanToken_32 ?_
      refine wc_i (wc := []) (wr := [(qt, .inr (1, [.ref qb, .int (nI n), .ref qk, .ref qp, .ref qn, .ref qh, .ref ql])), (qb, .inl (cB, 2000, .inl fb)), (qk, .inl (cI, 1001, .inl fk)), (qn, .inl (cI, 1001, .inl fn)), (qh, .inl (cL, 1001, .inr (.inl fh))), (ql, .inl (cL, 1001, .inr (.inl fl)))]) (va_runS (As := [.int (fb x)]) (rest := []) ⟨hx, hb, hml, hown, hts⟩ (c_Text_isWordByte l dC dI cB cI cL cZ cC cO (fb x) _ ) (va_cwS 1 hts (good_S k_492 k_493 k_2 k_494) rfl rfl rfl (by decide +kernel) ⟨Nat.le_of_ble_eq_true rfl, Nat.le_of_ble_eq_true rfl⟩) (wc_preS hK hP hD hS hA hF [] (by decide) rfl) rfl rfl hl.1 rfl (lv_room (Nat.le_of_ble_eq_true rfl)) d_Text_scanToken_33 ⟨Nat.le_of_ble_eq_true rfl, Nat.le_of_ble_eq_true rfl⟩) hP hD hS hA [] [0, 1, 2, 3, 4, 5] rfl rfl (by decide) (by decide) (fun r_3 u H locs w_2 hP hD hS => ?_)
      have hP : va_P (dC, dI) cl [(qt, .inr (1, [.ref qb, .int (nI n), .ref qk, .ref qp, .ref qn, .ref qh, .ref ql])), (qb, .inl (cB, 2000, .inl fb)), (qk, .inl (cI, 1001, .inl fk)), (qn, .inl (cI, 1001, .inl fn)), (qh, .inl (cL, 1001, .inr (.inl fh))), (ql, .inl (cL, 1001, .inr (.inl fl)))] H := hP
      have hD : va_D A [(qt, .inr (1, [.ref qb, .int (nI n), .ref qk, .ref qp, .ref qn, .ref qh, .ref ql])), (qb, .inl (cB, 2000, .inl fb)), (qk, .inl (cI, 1001, .inl fk)), (qn, .inl (cI, 1001, .inl fn)), (qh, .inl (cL, 1001, .inr (.inl fh))), (ql, .inl (cL, 1001, .inr (.inl fl)))] := hD
      subst w_2
      refine nv_bif_eq (tgt := 45) hx hb d_Text_scanToken_36 (by decide) (fun c_4 => ?_) (fun c_4 => ?_)
      · have hz : eF = x := by first | (rw [← hr, tx_wend_u, if_neg (by omega)]) | (rw [← hr, tx_wend_u, if_pos (by omega), if_neg (by rw [c_4]; decide)])
        subst hz
        exact kx H locs ls hP hD hS (lv_sub hl [0, 1, 2, 3] rfl)
      · refine lv_iinc (v := nI (x + 1)) (lv' := [(3, .int (nI (x + 1))), (0, .ref qt), (1, .int (nI t)), (2, .int (nI i))]) hx hb d_Text_scanToken_39 hl (k := 0) rfl (nI_1 _) (by decide) rfl (fun ls hl => ?_)
        refine lv_goto (tgt := 19) hx hb d_Text_scanToken_42 (by decide) ?_
        exact ih (x + 1) H locs ls (by omega) (by omega) (by rw [← hr, tx_wend_u fb n x, if_pos (by omega), if_pos c_4]) hP hD hS (lv_sub hl [0, 1, 2, 3] rfl)
set_option maxHeartbeats 4000000 in
set_option maxRecDepth 100000 in
/-- scanToken(t, i) -/
theorem c_Text_scanToken (l : Launch) (dC : Nat → ClassId) (dI : Nat → Nat → Nat) (cB cI cL cZ cC cO : ClassId) (qt qb qk qp qn qh ql : Nat) (fb fk fn : Nat → Int32) (fh fl : Nat → Int64) (n t i : Nat) (sz : Nat) (hn : n ≤ 2000) (ht : t ≤ 1000) (hi : i ≤ n) : Met l y_Text_scanToken w_Text_scanToken ({ frames := 2, cells := 0, slots := 0, locals := 60 }) (va_Pc [.ref qt, .int (nI t), .int (nI i)] (wB (dC, dI) cl [(cB, .byte), (cI, .int), (cL, .long), (cZ, .boolean), (cC, .char), (cO, .object "java/lang/Object")] sz [(qt, .inr (1, [.ref qb, .int (nI n), .ref qk, .ref qp, .ref qn, .ref qh, .ref ql])), (qb, .inl (cB, 2000, .inl fb)), (qk, .inl (cI, 1001, .inl fk)), (qn, .inl (cI, 1001, .inl fn)), (qh, .inl (cL, 1001, .inr (.inl fh))), (ql, .inl (cL, 1001, .inr (.inl fl)))])) (va_Qi (fun (r : Int32) (u : (Nat → Int32) × (Nat → Int32) × (Nat → Int64) × (Nat → Int64)) => r = nI (tk_end fb n i) ∧ u = (upd fk t (tk_kind fb n i), tk_num fb n i t fn, tk_hd fb n i t fh, tk_tl fb n i t fl)) (fun u t => wA (dC, dI) cl [(cB, .byte), (cI, .int), (cL, .long), (cZ, .boolean), (cC, .char), (cO, .object "java/lang/Object")] (va_A [(qt, .inr (1, [.ref qb, .int (nI n), .ref qk, .ref qp, .ref qn, .ref qh, .ref ql])), (qb, .inl (cB, 2000, .inl fb)), (qk, .inl (cI, 1001, .inl fk)), (qn, .inl (cI, 1001, .inl fn)), (qh, .inl (cL, 1001, .inr (.inl fh))), (ql, .inl (cL, 1001, .inr (.inl fl)))] sz) [(qt, .inr (1, [.ref qb, .int (nI n), .ref qk, .ref qp, .ref qn, .ref qh, .ref ql])), (qb, .inl (cB, 2000, .inl fb)), (qk, .inl (cI, 1001, .inl u.1)), (qn, .inl (cI, 1001, .inl u.2.1)), (qh, .inl (cL, 1001, .inr (.inl u.2.2.1))), (ql, .inl (cL, 1001, .inr (.inl u.2.2.2)))] t) (va_A [(qt, .inr (1, [.ref qb, .int (nI n), .ref qk, .ref qp, .ref qn, .ref qh, .ref ql])), (qb, .inl (cB, 2000, .inl fb)), (qk, .inl (cI, 1001, .inl fk)), (qn, .inl (cI, 1001, .inl fn)), (qh, .inl (cL, 1001, .inr (.inl fh))), (ql, .inl (cL, 1001, .inr (.inl fl)))] sz)) 0 0 (va_A [(qt, .inr (1, [.ref qb, .int (nI n), .ref qk, .ref qp, .ref qn, .ref qh, .ref ql])), (qb, .inl (cB, 2000, .inl fb)), (qk, .inl (cI, 1001, .inl fk)), (qn, .inl (cI, 1001, .inl fn)), (qh, .inl (cL, 1001, .inr (.inl fh))), (ql, .inl (cL, 1001, .inr (.inl fl)))] sz) := by
  refine Met.ofW (cc := b_Text_scanToken) (maxL := 4) (ret := (some ClassFile.FieldType.int)) (by decide) rfl ?_
  intro p e s m args below meth c s₁ B hml hv
  obtain ⟨rfl, hsz, hP, hK, hD0, hF⟩ := hv
  have hx := B.exec
  have hb := B.bytes
  have hr := B.returns
  have hts := atoms_spec (ws := w_Text_scanToken) B.pre
  have hts : ∀ w ∈ tb, w.before _ s = true := fun w h => hts w (List.mem_cons_of_mem _ h)
  have hown : s.vm.findClass R_Text = some m.cls := findClass_of_methodNamed B.named
  have hlocks := B.notSynchronized
  subst hsz
  have hD := hD0.self (sz := s.heap.size)
  generalize hAe : va_A [(qt, .inr (1, [.ref qb, .int (nI n), .ref qk, .ref qp, .ref qn, .ref qh, .ref ql])), (qb, .inl (cB, 2000, .inl fb)), (qk, .inl (cI, 1001, .inl fk)), (qn, .inl (cI, 1001, .inl fn)), (qh, .inl (cL, 1001, .inr (.inl fh))), (ql, .inl (cL, 1001, .inr (.inl fl)))] s.heap.size = A at hD hF ⊢
  have hA : ∀ q : Nat, s.heap.size ≤ q → A q := fun q h => by rw [← hAe]; exact Or.inr h
  have hS : va_S A s.heap s.heap [] := va_S.rf
  have hP : va_P (dC, dI) cl [(qt, .inr (1, [.ref qb, .int (nI n), .ref qk, .ref qp, .ref qn, .ref qh, .ref ql])), (qb, .inl (cB, 2000, .inl fb)), (qk, .inl (cI, 1001, .inl fk)), (qn, .inl (cI, 1001, .inl fn)), (qh, .inl (cL, 1001, .inr (.inl fh))), (ql, .inl (cL, 1001, .inr (.inl fl)))] s.heap := hP
  have hl := lv_entry ([.ref qt, .int (nI t), .int (nI i)]) (n := 4) (Nat.le_of_ble_eq_true rfl)
  rw [lg_entry_eq]
  generalize (lg_sl ([.ref qt, .int (nI t), .int (nI i)]) ++ List.replicate (4 - (lg_sl ([.ref qt, .int (nI t), .int (nI i)])).length) Slot.unset).toArray = ls at hl ⊢
  have hl : lv_has ls 4 [(0, .ref qt), (1, .int (nI t)), (2, .int (nI i))] := hl
  refine lv_iload_n hx hb d_Text_scanToken_0 rfl (lv_at hl 2 rfl) ?_
  refine lv_aload_n hx hb d_Text_scanToken_1 rfl (lv_at hl 0 rfl) ?_
  refine va_get (D := (dC, dI)) (ci := 1) (v := .int (nI n)) (C := R_Text) (T := F_Text) (N := 7) hx hb hts i_Text hown hK hP 0 rfl rfl 1 (by decide) (hts _ k_38) (fun _ h9 => h9) rfl d_Text_scanToken_2 ?_
  refine nv_icmp_lt (tgt := 17) hx hb (by omega) (by omega) d_Text_scanToken_5 (by decide) (fun c_1 => ?_) (fun c_1 => ?_)
  · have g1 : ¬ n ≤ i := by omega
    refine lv_iload_n hx hb d_Text_scanToken_17 rfl (lv_at hl 2 rfl) ?_
    refine lv_istore_n (lv' := [(3, .int (nI i)), (0, .ref qt), (1, .int (nI t)), (2, .int (nI i))]) hx hb d_Text_scanToken_18 rfl hl (by decide) rfl (fun ls hl => ?_)
    refine lp_Text_scanToken (eF := tx_wend fb (n - i) i) hn hx hb hml hown hts hA hF hK (fun H locs ls hP hD hS hl => ?_) (n + 1 - i) i _ _ ls (by omega) hi rfl hP hD hS (lv_sub hl [0, 1, 2, 3] rfl)
    have he3 : tx_wend fb (n - i) i ≤ n := by have := tx_wend_le fb (n - i) i; omega
    refine lv_iload_n hx hb d_Text_scanToken_45 rfl (lv_at hl 0 rfl) ?_
    refine lv_iload_n hx hb d_Text_scanToken_46 rfl (lv_at hl 3 rfl) ?_
    refine nv_icmp_le (tgt := 87) hx hb (by omega) (by omega) d_Text_scanToken_47 (by decide) (fun c_2 => ?_) (fun c_2 => ?_)
    · have g2 : ¬ i < tx_wend fb (n - i) i := by omega
      refine lv_aload_n hx hb d_Text_scanToken_87 rfl (lv_at hl 1 rfl) ?_
      refine va_get (D := (dC, dI)) (ci := 1) (v := .ref qb) (C := R_Text) (T := F_Text) (N := 7) hx hb hts i_Text hown hK hP 0 rfl rfl 0 (by decide) (hts _ k_37) (fun _ h9 => h9) rfl d_Text_scanToken_88 ?_
      refine lv_iload_n hx hb d_Text_scanToken_91 rfl (lv_at hl 3 rfl) ?_
      refine nv_bald hx hb hK hP 1 0 rfl rfl (by omega) (by decide) d_Text_scanToken_92 ?_
      refine lv_bipush (v := nI 46) hx hb d_Text_scanToken_93 (by decide) ?_
      refine lv_icmp_ne (tgt := 132) hx hb d_Text_scanToken_95 (by decide) (fun c_3 => ?_) (fun c_3 => ?_)
      · have gd : ¬ (fb i = nI 46 ∧ i + 1 < n ∧ fb (i + 1) = nI 46) := fun q => by first | exact c_3 q.1 | exact absurd q.2.1 (by omega) | exact c_3 q.2.2
        refine lv_aload_n hx hb d_Text_scanToken_132 rfl (lv_at hl 1 rfl) ?_
        refine va_get (D := (dC, dI)) (ci := 1) (v := .ref qk) (C := R_Text) (T := F_Text) (N := 7) hx hb hts i_Text hown hK hP 0 rfl rfl 2 (by decide) (hts _ k_40) (fun _ h9 => h9) rfl d_Text_scanToken_133 ?_
        refine lv_iload_n hx hb d_Text_scanToken_136 rfl (lv_at hl 2 rfl) ?_
        refine lv_aload_n hx hb d_Text_scanToken_137 rfl (lv_at hl 1 rfl) ?_
        refine va_get (D := (dC, dI)) (ci := 1) (v := .ref qb) (C := R_Text) (T := F_Text) (N := 7) hx hb hts i_Text hown hK hP 0 rfl rfl 0 (by decide) (hts _ k_37) (fun _ h9 => h9) rfl d_Text_scanToken_138 ?_
        refine lv_iload_n hx hb d_Text_scanToken_141 rfl (lv_at hl 3 rfl) ?_
        refine nv_bald hx hb hK hP 1 0 rfl rfl (by omega) (by decide) d_Text_scanToken_142 ?_
        refine wc_i (wc := []) (wr := [(qt, .inr (1, [.ref qb, .int (nI n), .ref qk, .ref qp, .ref qn, .ref qh, .ref ql])), (qb, .inl (cB, 2000, .inl fb)), (qk, .inl (cI, 1001, .inl fk)), (qn, .inl (cI, 1001, .inl fn)), (qh, .inl (cL, 1001, .inr (.inl fh))), (ql, .inl (cL, 1001, .inr (.inl fl)))]) (va_runS (As := [.int (fb i)]) (rest := [.int (nI t), .ref qk]) ⟨hx, hb, hml, hown, hts⟩ (c_Text_isSign l dC dI cB cI cL cZ cC cO (fb i) _ ) (va_cwS 1 hts (good_S k_514 k_515 k_2 k_516) rfl rfl rfl (by decide +kernel) ⟨Nat.le_of_ble_eq_true rfl, Nat.le_of_ble_eq_true rfl⟩) (wc_preS hK hP hD hS hA hF [] (by decide) rfl) rfl rfl hl.1 rfl (lv_room (Nat.le_of_ble_eq_true rfl)) d_Text_scanToken_143 ⟨Nat.le_of_ble_eq_true rfl, Nat.le_of_ble_eq_true rfl⟩) hP hD hS hA [] [0, 1, 2, 3, 4, 5] rfl rfl (by decide) (by decide) (fun r_5 u H locs w_4 hP hD hS => ?_)
        have hP : va_P (dC, dI) cl [(qt, .inr (1, [.ref qb, .int (nI n), .ref qk, .ref qp, .ref qn, .ref qh, .ref ql])), (qb, .inl (cB, 2000, .inl fb)), (qk, .inl (cI, 1001, .inl fk)), (qn, .inl (cI, 1001, .inl fn)), (qh, .inl (cL, 1001, .inr (.inl fh))), (ql, .inl (cL, 1001, .inr (.inl fl)))] H := hP
        have hD : va_D A [(qt, .inr (1, [.ref qb, .int (nI n), .ref qk, .ref qp, .ref qn, .ref qh, .ref ql])), (qb, .inl (cB, 2000, .inl fb)), (qk, .inl (cI, 1001, .inl fk)), (qn, .inl (cI, 1001, .inl fn)), (qh, .inl (cL, 1001, .inr (.inl fh))), (ql, .inl (cL, 1001, .inr (.inl fl)))] := hD
        subst w_4
        refine nv_bif_eq (tgt := 158) hx hb d_Text_scanToken_146 (by decide) (fun c_6 => ?_) (fun c_6 => ?_)
        · have gs : ¬ tx_sign (fb i) = true := by rw [c_6]; decide
          refine lv_iconst (v := nI 1) hx hb d_Text_scanToken_158 (by decide) ?_
          refine nv_iast hx hb hK hP hD hS 2 1 rfl rfl (by omega) (by decide) d_Text_scanToken_159 (fun H locs hP hD hS => ?_)
          have hP : va_P (dC, dI) cl [(qt, .inr (1, [.ref qb, .int (nI n), .ref qk, .ref qp, .ref qn, .ref qh, .ref ql])), (qb, .inl (cB, 2000, .inl fb)), (qk, .inl (cI, 1001, .inl (upd fk t (nI 1)))), (qn, .inl (cI, 1001, .inl fn)), (qh, .inl (cL, 1001, .inr (.inl fh))), (ql, .inl (cL, 1001, .inr (.inl fl)))] H := hP
          have hD : va_D A [(qt, .inr (1, [.ref qb, .int (nI n), .ref qk, .ref qp, .ref qn, .ref qh, .ref ql])), (qb, .inl (cB, 2000, .inl fb)), (qk, .inl (cI, 1001, .inl (upd fk t (nI 1)))), (qn, .inl (cI, 1001, .inl fn)), (qh, .inl (cL, 1001, .inr (.inl fh))), (ql, .inl (cL, 1001, .inr (.inl fl)))] := hD
          refine lv_iload_n hx hb d_Text_scanToken_160 rfl (lv_at hl 3 rfl) ?_
          refine lv_iconst (v := nI 1) hx hb d_Text_scanToken_161 (by decide) ?_
          refine nv_iadd hx hb d_Text_scanToken_162 ?_
          have e1 : tk_end fb n i = i + 1 := by unfold tk_end; rw [if_neg g1, if_neg g2, if_neg gd]
          have e2 : tk_kind fb n i = (nI 1) := by unfold tk_kind; rw [if_neg g1, if_neg g2, if_neg gd, if_neg gs]
          have e3 : tk_num fb n i t fn = fn := by unfold tk_num; rw [if_neg g1, if_neg g2]
          have e4 : tk_hd fb n i t fh = fh := by unfold tk_hd; rw [if_neg g1, if_neg g2]
          have e5 : tk_tl fb n i t fl = fl := by unfold tk_tl; rw [if_neg g1, if_neg g2]
          exact wr_i hx hb hr hlocks (upd fk t (nI 1), fn, fh, fl) ⟨by rw [e1], by rw [e2, e3, e4, e5]⟩ hK hP hD hS d_Text_scanToken_163
        · have gs : tx_sign (fb i) = true := c_6
          refine lv_aload_n hx hb d_Text_scanToken_149 rfl (lv_at hl 1 rfl) ?_
          refine va_get (D := (dC, dI)) (ci := 1) (v := .ref qb) (C := R_Text) (T := F_Text) (N := 7) hx hb hts i_Text hown hK hP 0 rfl rfl 0 (by decide) (hts _ k_37) (fun _ h9 => h9) rfl d_Text_scanToken_150 ?_
          refine lv_iload_n hx hb d_Text_scanToken_153 rfl (lv_at hl 3 rfl) ?_
          refine nv_bald hx hb hK hP 1 0 rfl rfl (by omega) (by decide) d_Text_scanToken_154 ?_
          refine lv_goto (tgt := 159) hx hb d_Text_scanToken_155 (by decide) ?_
          refine nv_iast hx hb hK hP hD hS 2 1 rfl rfl (by omega) (by decide) d_Text_scanToken_159 (fun H locs hP hD hS => ?_)
          have hP : va_P (dC, dI) cl [(qt, .inr (1, [.ref qb, .int (nI n), .ref qk, .ref qp, .ref qn, .ref qh, .ref ql])), (qb, .inl (cB, 2000, .inl fb)), (qk, .inl (cI, 1001, .inl (upd fk t (fb i)))), (qn, .inl (cI, 1001, .inl fn)), (qh, .inl (cL, 1001, .inr (.inl fh))), (ql, .inl (cL, 1001, .inr (.inl fl)))] H := hP
          have hD : va_D A [(qt, .inr (1, [.ref qb, .int (nI n), .ref qk, .ref qp, .ref qn, .ref qh, .ref ql])), (qb, .inl (cB, 2000, .inl fb)), (qk, .inl (cI, 1001, .inl (upd fk t (fb i)))), (qn, .inl (cI, 1001, .inl fn)), (qh, .inl (cL, 1001, .inr (.inl fh))), (ql, .inl (cL, 1001, .inr (.inl fl)))] := hD
          refine lv_iload_n hx hb d_Text_scanToken_160 rfl (lv_at hl 3 rfl) ?_
          refine lv_iconst (v := nI 1) hx hb d_Text_scanToken_161 (by decide) ?_
          refine nv_iadd hx hb d_Text_scanToken_162 ?_
          have e1 : tk_end fb n i = i + 1 := by unfold tk_end; rw [if_neg g1, if_neg g2, if_neg gd]
          have e2 : tk_kind fb n i = (fb i) := by unfold tk_kind; rw [if_neg g1, if_neg g2, if_neg gd, if_pos gs]
          have e3 : tk_num fb n i t fn = fn := by unfold tk_num; rw [if_neg g1, if_neg g2]
          have e4 : tk_hd fb n i t fh = fh := by unfold tk_hd; rw [if_neg g1, if_neg g2]
          have e5 : tk_tl fb n i t fl = fl := by unfold tk_tl; rw [if_neg g1, if_neg g2]
          exact wr_i hx hb hr hlocks (upd fk t (fb i), fn, fh, fl) ⟨by rw [e1], by rw [e2, e3, e4, e5]⟩ hK hP hD hS d_Text_scanToken_163
      · refine lv_iload_n hx hb d_Text_scanToken_98 rfl (lv_at hl 3 rfl) ?_
        refine lv_iconst (v := nI 1) hx hb d_Text_scanToken_99 (by decide) ?_
        refine nv_iadd hx hb d_Text_scanToken_100 ?_
        refine lv_aload_n hx hb d_Text_scanToken_101 rfl (lv_at hl 1 rfl) ?_
        refine va_get (D := (dC, dI)) (ci := 1) (v := .int (nI n)) (C := R_Text) (T := F_Text) (N := 7) hx hb hts i_Text hown hK hP 0 rfl rfl 1 (by decide) (hts _ k_38) (fun _ h9 => h9) rfl d_Text_scanToken_102 ?_
        refine nv_icmp_ge (tgt := 132) hx hb (by omega) (by omega) d_Text_scanToken_105 (by decide) (fun c_7 => ?_) (fun c_7 => ?_)
        · have gd : ¬ (fb i = nI 46 ∧ i + 1 < n ∧ fb (i + 1) = nI 46) := fun q => by first | exact c_7 q.1 | exact absurd q.2.1 (by omega) | exact c_7 q.2.2
          refine lv_aload_n hx hb d_Text_scanToken_132 rfl (lv_at hl 1 rfl) ?_
          refine va_get (D := (dC, dI)) (ci := 1) (v := .ref qk) (C := R_Text) (T := F_Text) (N := 7) hx hb hts i_Text hown hK hP 0 rfl rfl 2 (by decide) (hts _ k_40) (fun _ h9 => h9) rfl d_Text_scanToken_133 ?_
          refine lv_iload_n hx hb d_Text_scanToken_136 rfl (lv_at hl 2 rfl) ?_
          refine lv_aload_n hx hb d_Text_scanToken_137 rfl (lv_at hl 1 rfl) ?_
          refine va_get (D := (dC, dI)) (ci := 1) (v := .ref qb) (C := R_Text) (T := F_Text) (N := 7) hx hb hts i_Text hown hK hP 0 rfl rfl 0 (by decide) (hts _ k_37) (fun _ h9 => h9) rfl d_Text_scanToken_138 ?_
          refine lv_iload_n hx hb d_Text_scanToken_141 rfl (lv_at hl 3 rfl) ?_
          refine nv_bald hx hb hK hP 1 0 rfl rfl (by omega) (by decide) d_Text_scanToken_142 ?_
          refine wc_i (wc := []) (wr := [(qt, .inr (1, [.ref qb, .int (nI n), .ref qk, .ref qp, .ref qn, .ref qh, .ref ql])), (qb, .inl (cB, 2000, .inl fb)), (qk, .inl (cI, 1001, .inl fk)), (qn, .inl (cI, 1001, .inl fn)), (qh, .inl (cL, 1001, .inr (.inl fh))), (ql, .inl (cL, 1001, .inr (.inl fl)))]) (va_runS (As := [.int (fb i)]) (rest := [.int (nI t), .ref qk]) ⟨hx, hb, hml, hown, hts⟩ (c_Text_isSign l dC dI cB cI cL cZ cC cO (fb i) _ ) (va_cwS 1 hts (good_S k_514 k_515 k_2 k_516) rfl rfl rfl (by decide +kernel) ⟨Nat.le_of_ble_eq_true rfl, Nat.le_of_ble_eq_true rfl⟩) (wc_preS hK hP hD hS hA hF [] (by decide) rfl) rfl rfl hl.1 rfl (lv_room (Nat.le_of_ble_eq_true rfl)) d_Text_scanToken_143 ⟨Nat.le_of_ble_eq_true rfl, Nat.le_of_ble_eq_true rfl⟩) hP hD hS hA [] [0, 1, 2, 3, 4, 5] rfl rfl (by decide) (by decide) (fun r_9 u H locs w_8 hP hD hS => ?_)
          have hP : va_P (dC, dI) cl [(qt, .inr (1, [.ref qb, .int (nI n), .ref qk, .ref qp, .ref qn, .ref qh, .ref ql])), (qb, .inl (cB, 2000, .inl fb)), (qk, .inl (cI, 1001, .inl fk)), (qn, .inl (cI, 1001, .inl fn)), (qh, .inl (cL, 1001, .inr (.inl fh))), (ql, .inl (cL, 1001, .inr (.inl fl)))] H := hP
          have hD : va_D A [(qt, .inr (1, [.ref qb, .int (nI n), .ref qk, .ref qp, .ref qn, .ref qh, .ref ql])), (qb, .inl (cB, 2000, .inl fb)), (qk, .inl (cI, 1001, .inl fk)), (qn, .inl (cI, 1001, .inl fn)), (qh, .inl (cL, 1001, .inr (.inl fh))), (ql, .inl (cL, 1001, .inr (.inl fl)))] := hD
          subst w_8
          refine nv_bif_eq (tgt := 158) hx hb d_Text_scanToken_146 (by decide) (fun c_10 => ?_) (fun c_10 => ?_)
          · have gs : ¬ tx_sign (fb i) = true := by rw [c_10]; decide
            refine lv_iconst (v := nI 1) hx hb d_Text_scanToken_158 (by decide) ?_
            refine nv_iast hx hb hK hP hD hS 2 1 rfl rfl (by omega) (by decide) d_Text_scanToken_159 (fun H locs hP hD hS => ?_)
            have hP : va_P (dC, dI) cl [(qt, .inr (1, [.ref qb, .int (nI n), .ref qk, .ref qp, .ref qn, .ref qh, .ref ql])), (qb, .inl (cB, 2000, .inl fb)), (qk, .inl (cI, 1001, .inl (upd fk t (nI 1)))), (qn, .inl (cI, 1001, .inl fn)), (qh, .inl (cL, 1001, .inr (.inl fh))), (ql, .inl (cL, 1001, .inr (.inl fl)))] H := hP
            have hD : va_D A [(qt, .inr (1, [.ref qb, .int (nI n), .ref qk, .ref qp, .ref qn, .ref qh, .ref ql])), (qb, .inl (cB, 2000, .inl fb)), (qk, .inl (cI, 1001, .inl (upd fk t (nI 1)))), (qn, .inl (cI, 1001, .inl fn)), (qh, .inl (cL, 1001, .inr (.inl fh))), (ql, .inl (cL, 1001, .inr (.inl fl)))] := hD
            refine lv_iload_n hx hb d_Text_scanToken_160 rfl (lv_at hl 3 rfl) ?_
            refine lv_iconst (v := nI 1) hx hb d_Text_scanToken_161 (by decide) ?_
            refine nv_iadd hx hb d_Text_scanToken_162 ?_
            have e1 : tk_end fb n i = i + 1 := by unfold tk_end; rw [if_neg g1, if_neg g2, if_neg gd]
            have e2 : tk_kind fb n i = (nI 1) := by unfold tk_kind; rw [if_neg g1, if_neg g2, if_neg gd, if_neg gs]
            have e3 : tk_num fb n i t fn = fn := by unfold tk_num; rw [if_neg g1, if_neg g2]
            have e4 : tk_hd fb n i t fh = fh := by unfold tk_hd; rw [if_neg g1, if_neg g2]
            have e5 : tk_tl fb n i t fl = fl := by unfold tk_tl; rw [if_neg g1, if_neg g2]
            exact wr_i hx hb hr hlocks (upd fk t (nI 1), fn, fh, fl) ⟨by rw [e1], by rw [e2, e3, e4, e5]⟩ hK hP hD hS d_Text_scanToken_163
          · have gs : tx_sign (fb i) = true := c_10
            refine lv_aload_n hx hb d_Text_scanToken_149 rfl (lv_at hl 1 rfl) ?_
            refine va_get (D := (dC, dI)) (ci := 1) (v := .ref qb) (C := R_Text) (T := F_Text) (N := 7) hx hb hts i_Text hown hK hP 0 rfl rfl 0 (by decide) (hts _ k_37) (fun _ h9 => h9) rfl d_Text_scanToken_150 ?_
            refine lv_iload_n hx hb d_Text_scanToken_153 rfl (lv_at hl 3 rfl) ?_
            refine nv_bald hx hb hK hP 1 0 rfl rfl (by omega) (by decide) d_Text_scanToken_154 ?_
            refine lv_goto (tgt := 159) hx hb d_Text_scanToken_155 (by decide) ?_
            refine nv_iast hx hb hK hP hD hS 2 1 rfl rfl (by omega) (by decide) d_Text_scanToken_159 (fun H locs hP hD hS => ?_)
            have hP : va_P (dC, dI) cl [(qt, .inr (1, [.ref qb, .int (nI n), .ref qk, .ref qp, .ref qn, .ref qh, .ref ql])), (qb, .inl (cB, 2000, .inl fb)), (qk, .inl (cI, 1001, .inl (upd fk t (fb i)))), (qn, .inl (cI, 1001, .inl fn)), (qh, .inl (cL, 1001, .inr (.inl fh))), (ql, .inl (cL, 1001, .inr (.inl fl)))] H := hP
            have hD : va_D A [(qt, .inr (1, [.ref qb, .int (nI n), .ref qk, .ref qp, .ref qn, .ref qh, .ref ql])), (qb, .inl (cB, 2000, .inl fb)), (qk, .inl (cI, 1001, .inl (upd fk t (fb i)))), (qn, .inl (cI, 1001, .inl fn)), (qh, .inl (cL, 1001, .inr (.inl fh))), (ql, .inl (cL, 1001, .inr (.inl fl)))] := hD
            refine lv_iload_n hx hb d_Text_scanToken_160 rfl (lv_at hl 3 rfl) ?_
            refine lv_iconst (v := nI 1) hx hb d_Text_scanToken_161 (by decide) ?_
            refine nv_iadd hx hb d_Text_scanToken_162 ?_
            have e1 : tk_end fb n i = i + 1 := by unfold tk_end; rw [if_neg g1, if_neg g2, if_neg gd]
            have e2 : tk_kind fb n i = (fb i) := by unfold tk_kind; rw [if_neg g1, if_neg g2, if_neg gd, if_pos gs]
            have e3 : tk_num fb n i t fn = fn := by unfold tk_num; rw [if_neg g1, if_neg g2]
            have e4 : tk_hd fb n i t fh = fh := by unfold tk_hd; rw [if_neg g1, if_neg g2]
            have e5 : tk_tl fb n i t fl = fl := by unfold tk_tl; rw [if_neg g1, if_neg g2]
            exact wr_i hx hb hr hlocks (upd fk t (fb i), fn, fh, fl) ⟨by rw [e1], by rw [e2, e3, e4, e5]⟩ hK hP hD hS d_Text_scanToken_163
        · refine lv_aload_n hx hb d_Text_scanToken_108 rfl (lv_at hl 1 rfl) ?_
          refine va_get (D := (dC, dI)) (ci := 1) (v := .ref qb) (C := R_Text) (T := F_Text) (N := 7) hx hb hts i_Text hown hK hP 0 rfl rfl 0 (by decide) (hts _ k_37) (fun _ h9 => h9) rfl d_Text_scanToken_109 ?_
          refine lv_iload_n hx hb d_Text_scanToken_112 rfl (lv_at hl 3 rfl) ?_
          refine lv_iconst (v := nI 1) hx hb d_Text_scanToken_113 (by decide) ?_
          refine nv_iadd hx hb d_Text_scanToken_114 ?_
          refine nv_bald hx hb hK hP 1 0 rfl rfl (by omega) (by decide) d_Text_scanToken_115 ?_
          refine lv_bipush (v := nI 46) hx hb d_Text_scanToken_116 (by decide) ?_
          refine lv_icmp_ne (tgt := 132) hx hb d_Text_scanToken_118 (by decide) (fun c_11 => ?_) (fun c_11 => ?_)
          · have gd : ¬ (fb i = nI 46 ∧ i + 1 < n ∧ fb (i + 1) = nI 46) := fun q => by first | exact c_11 q.1 | exact absurd q.2.1 (by omega) | exact c_11 q.2.2
            refine lv_aload_n hx hb d_Text_scanToken_132 rfl (lv_at hl 1 rfl) ?_
            refine va_get (D := (dC, dI)) (ci := 1) (v := .ref qk) (C := R_Text) (T := F_Text) (N := 7) hx hb hts i_Text hown hK hP 0 rfl rfl 2 (by decide) (hts _ k_40) (fun _ h9 => h9) rfl d_Text_scanToken_133 ?_
            refine lv_iload_n hx hb d_Text_scanToken_136 rfl (lv_at hl 2 rfl) ?_
            refine lv_aload_n hx hb d_Text_scanToken_137 rfl (lv_at hl 1 rfl) ?_
            refine va_get (D := (dC, dI)) (ci := 1) (v := .ref qb) (C := R_Text) (T := F_Text) (N := 7) hx hb hts i_Text hown hK hP 0 rfl rfl 0 (by decide) (hts _ k_37) (fun _ h9 => h9) rfl d_Text_scanToken_138 ?_
            refine lv_iload_n hx hb d_Text_scanToken_141 rfl (lv_at hl 3 rfl) ?_
            refine nv_bald hx hb hK hP 1 0 rfl rfl (by omega) (by decide) d_Text_scanToken_142 ?_
            refine wc_i (wc := []) (wr := [(qt, .inr (1, [.ref qb, .int (nI n), .ref qk, .ref qp, .ref qn, .ref qh, .ref ql])), (qb, .inl (cB, 2000, .inl fb)), (qk, .inl (cI, 1001, .inl fk)), (qn, .inl (cI, 1001, .inl fn)), (qh, .inl (cL, 1001, .inr (.inl fh))), (ql, .inl (cL, 1001, .inr (.inl fl)))]) (va_runS (As := [.int (fb i)]) (rest := [.int (nI t), .ref qk]) ⟨hx, hb, hml, hown, hts⟩ (c_Text_isSign l dC dI cB cI cL cZ cC cO (fb i) _ ) (va_cwS 1 hts (good_S k_514 k_515 k_2 k_516) rfl rfl rfl (by decide +kernel) ⟨Nat.le_of_ble_eq_true rfl, Nat.le_of_ble_eq_true rfl⟩) (wc_preS hK hP hD hS hA hF [] (by decide) rfl) rfl rfl hl.1 rfl (lv_room (Nat.le_of_ble_eq_true rfl)) d_Text_scanToken_143 ⟨Nat.le_of_ble_eq_true rfl, Nat.le_of_ble_eq_true rfl⟩) hP hD hS hA [] [0, 1, 2, 3, 4, 5] rfl rfl (by decide) (by decide) (fun r_13 u H locs w_12 hP hD hS => ?_)
            have hP : va_P (dC, dI) cl [(qt, .inr (1, [.ref qb, .int (nI n), .ref qk, .ref qp, .ref qn, .ref qh, .ref ql])), (qb, .inl (cB, 2000, .inl fb)), (qk, .inl (cI, 1001, .inl fk)), (qn, .inl (cI, 1001, .inl fn)), (qh, .inl (cL, 1001, .inr (.inl fh))), (ql, .inl (cL, 1001, .inr (.inl fl)))] H := hP
            have hD : va_D A [(qt, .inr (1, [.ref qb, .int (nI n), .ref qk, .ref qp, .ref qn, .ref qh, .ref ql])), (qb, .inl (cB, 2000, .inl fb)), (qk, .inl (cI, 1001, .inl fk)), (qn, .inl (cI, 1001, .inl fn)), (qh, .inl (cL, 1001, .inr (.inl fh))), (ql, .inl (cL, 1001, .inr (.inl fl)))] := hD
            subst w_12
            refine nv_bif_eq (tgt := 158) hx hb d_Text_scanToken_146 (by decide) (fun c_14 => ?_) (fun c_14 => ?_)
            · have gs : ¬ tx_sign (fb i) = true := by rw [c_14]; decide
              refine lv_iconst (v := nI 1) hx hb d_Text_scanToken_158 (by decide) ?_
              refine nv_iast hx hb hK hP hD hS 2 1 rfl rfl (by omega) (by decide) d_Text_scanToken_159 (fun H locs hP hD hS => ?_)
              have hP : va_P (dC, dI) cl [(qt, .inr (1, [.ref qb, .int (nI n), .ref qk, .ref qp, .ref qn, .ref qh, .ref ql])), (qb, .inl (cB, 2000, .inl fb)), (qk, .inl (cI, 1001, .inl (upd fk t (nI 1)))), (qn, .inl (cI, 1001, .inl fn)), (qh, .inl (cL, 1001, .inr (.inl fh))), (ql, .inl (cL, 1001, .inr (.inl fl)))] H := hP
              have hD : va_D A [(qt, .inr (1, [.ref qb, .int (nI n), .ref qk, .ref qp, .ref qn, .ref qh, .ref ql])), (qb, .inl (cB, 2000, .inl fb)), (qk, .inl (cI, 1001, .inl (upd fk t (nI 1)))), (qn, .inl (cI, 1001, .inl fn)), (qh, .inl (cL, 1001, .inr (.inl fh))), (ql, .inl (cL, 1001, .inr (.inl fl)))] := hD
              refine lv_iload_n hx hb d_Text_scanToken_160 rfl (lv_at hl 3 rfl) ?_
              refine lv_iconst (v := nI 1) hx hb d_Text_scanToken_161 (by decide) ?_
              refine nv_iadd hx hb d_Text_scanToken_162 ?_
              have e1 : tk_end fb n i = i + 1 := by unfold tk_end; rw [if_neg g1, if_neg g2, if_neg gd]
              have e2 : tk_kind fb n i = (nI 1) := by unfold tk_kind; rw [if_neg g1, if_neg g2, if_neg gd, if_neg gs]
              have e3 : tk_num fb n i t fn = fn := by unfold tk_num; rw [if_neg g1, if_neg g2]
              have e4 : tk_hd fb n i t fh = fh := by unfold tk_hd; rw [if_neg g1, if_neg g2]
              have e5 : tk_tl fb n i t fl = fl := by unfold tk_tl; rw [if_neg g1, if_neg g2]
              exact wr_i hx hb hr hlocks (upd fk t (nI 1), fn, fh, fl) ⟨by rw [e1], by rw [e2, e3, e4, e5]⟩ hK hP hD hS d_Text_scanToken_163
            · have gs : tx_sign (fb i) = true := c_14
              refine lv_aload_n hx hb d_Text_scanToken_149 rfl (lv_at hl 1 rfl) ?_
              refine va_get (D := (dC, dI)) (ci := 1) (v := .ref qb) (C := R_Text) (T := F_Text) (N := 7) hx hb hts i_Text hown hK hP 0 rfl rfl 0 (by decide) (hts _ k_37) (fun _ h9 => h9) rfl d_Text_scanToken_150 ?_
              refine lv_iload_n hx hb d_Text_scanToken_153 rfl (lv_at hl 3 rfl) ?_
              refine nv_bald hx hb hK hP 1 0 rfl rfl (by omega) (by decide) d_Text_scanToken_154 ?_
              refine lv_goto (tgt := 159) hx hb d_Text_scanToken_155 (by decide) ?_
              refine nv_iast hx hb hK hP hD hS 2 1 rfl rfl (by omega) (by decide) d_Text_scanToken_159 (fun H locs hP hD hS => ?_)
              have hP : va_P (dC, dI) cl [(qt, .inr (1, [.ref qb, .int (nI n), .ref qk, .ref qp, .ref qn, .ref qh, .ref ql])), (qb, .inl (cB, 2000, .inl fb)), (qk, .inl (cI, 1001, .inl (upd fk t (fb i)))), (qn, .inl (cI, 1001, .inl fn)), (qh, .inl (cL, 1001, .inr (.inl fh))), (ql, .inl (cL, 1001, .inr (.inl fl)))] H := hP
              have hD : va_D A [(qt, .inr (1, [.ref qb, .int (nI n), .ref qk, .ref qp, .ref qn, .ref qh, .ref ql])), (qb, .inl (cB, 2000, .inl fb)), (qk, .inl (cI, 1001, .inl (upd fk t (fb i)))), (qn, .inl (cI, 1001, .inl fn)), (qh, .inl (cL, 1001, .inr (.inl fh))), (ql, .inl (cL, 1001, .inr (.inl fl)))] := hD
              refine lv_iload_n hx hb d_Text_scanToken_160 rfl (lv_at hl 3 rfl) ?_
              refine lv_iconst (v := nI 1) hx hb d_Text_scanToken_161 (by decide) ?_
              refine nv_iadd hx hb d_Text_scanToken_162 ?_
              have e1 : tk_end fb n i = i + 1 := by unfold tk_end; rw [if_neg g1, if_neg g2, if_neg gd]
              have e2 : tk_kind fb n i = (fb i) := by unfold tk_kind; rw [if_neg g1, if_neg g2, if_neg gd, if_pos gs]
              have e3 : tk_num fb n i t fn = fn := by unfold tk_num; rw [if_neg g1, if_neg g2]
              have e4 : tk_hd fb n i t fh = fh := by unfold tk_hd; rw [if_neg g1, if_neg g2]
              have e5 : tk_tl fb n i t fl = fl := by unfold tk_tl; rw [if_neg g1, if_neg g2]
              exact wr_i hx hb hr hlocks (upd fk t (fb i), fn, fh, fl) ⟨by rw [e1], by rw [e2, e3, e4, e5]⟩ hK hP hD hS d_Text_scanToken_163
          · have gd : fb i = nI 46 ∧ i + 1 < n ∧ fb (i + 1) = nI 46 := ⟨c_3, c_7, c_11⟩
            refine lv_aload_n hx hb d_Text_scanToken_121 rfl (lv_at hl 1 rfl) ?_
            refine va_get (D := (dC, dI)) (ci := 1) (v := .ref qk) (C := R_Text) (T := F_Text) (N := 7) hx hb hts i_Text hown hK hP 0 rfl rfl 2 (by decide) (hts _ k_40) (fun _ h9 => h9) rfl d_Text_scanToken_122 ?_
            refine lv_iload_n hx hb d_Text_scanToken_125 rfl (lv_at hl 2 rfl) ?_
            refine lv_iconst (v := nI 5) hx hb d_Text_scanToken_126 (by decide) ?_
            refine nv_iast hx hb hK hP hD hS 2 1 rfl rfl (by omega) (by decide) d_Text_scanToken_127 (fun H locs hP hD hS => ?_)
            have hP : va_P (dC, dI) cl [(qt, .inr (1, [.ref qb, .int (nI n), .ref qk, .ref qp, .ref qn, .ref qh, .ref ql])), (qb, .inl (cB, 2000, .inl fb)), (qk, .inl (cI, 1001, .inl (upd fk t (nI 5)))), (qn, .inl (cI, 1001, .inl fn)), (qh, .inl (cL, 1001, .inr (.inl fh))), (ql, .inl (cL, 1001, .inr (.inl fl)))] H := hP
            have hD : va_D A [(qt, .inr (1, [.ref qb, .int (nI n), .ref qk, .ref qp, .ref qn, .ref qh, .ref ql])), (qb, .inl (cB, 2000, .inl fb)), (qk, .inl (cI, 1001, .inl (upd fk t (nI 5)))), (qn, .inl (cI, 1001, .inl fn)), (qh, .inl (cL, 1001, .inr (.inl fh))), (ql, .inl (cL, 1001, .inr (.inl fl)))] := hD
            refine lv_iload_n hx hb d_Text_scanToken_128 rfl (lv_at hl 3 rfl) ?_
            refine lv_iconst (v := nI 2) hx hb d_Text_scanToken_129 (by decide) ?_
            refine nv_iadd hx hb d_Text_scanToken_130 ?_
            have e1 : tk_end fb n i = i + 2 := by unfold tk_end; rw [if_neg g1, if_neg g2, if_pos gd]
            have e2 : tk_kind fb n i = (nI 5) := by unfold tk_kind; rw [if_neg g1, if_neg g2, if_pos gd]
            have e3 : tk_num fb n i t fn = fn := by unfold tk_num; rw [if_neg g1, if_neg g2]
            have e4 : tk_hd fb n i t fh = fh := by unfold tk_hd; rw [if_neg g1, if_neg g2]
            have e5 : tk_tl fb n i t fl = fl := by unfold tk_tl; rw [if_neg g1, if_neg g2]
            exact wr_i hx hb hr hlocks (upd fk t (nI 5), fn, fh, fl) ⟨by rw [e1], by rw [e2, e3, e4, e5]⟩ hK hP hD hS d_Text_scanToken_131
    · have ge : i < tx_wend fb (n - i) i := c_2
      have he2 : tx_wend fb (n - i) i ≤ n := by have := tx_wend_le fb (n - i) i; omega
      refine lv_aload_n hx hb d_Text_scanToken_50 rfl (lv_at hl 1 rfl) ?_
      refine va_get (D := (dC, dI)) (ci := 1) (v := .ref qk) (C := R_Text) (T := F_Text) (N := 7) hx hb hts i_Text hown hK hP 0 rfl rfl 2 (by decide) (hts _ k_40) (fun _ h9 => h9) rfl d_Text_scanToken_51 ?_
      refine lv_iload_n hx hb d_Text_scanToken_54 rfl (lv_at hl 2 rfl) ?_
      refine lv_aload_n hx hb d_Text_scanToken_55 rfl (lv_at hl 1 rfl) ?_
      refine va_get (D := (dC, dI)) (ci := 1) (v := .ref qb) (C := R_Text) (T := F_Text) (N := 7) hx hb hts i_Text hown hK hP 0 rfl rfl 0 (by decide) (hts _ k_37) (fun _ h9 => h9) rfl d_Text_scanToken_56 ?_
      refine lv_iload_n hx hb d_Text_scanToken_59 rfl (lv_at hl 3 rfl) ?_
      refine nv_bald hx hb hK hP 1 0 rfl rfl (by omega) (by decide) d_Text_scanToken_60 ?_
      refine wc_i (wc := []) (wr := [(qt, .inr (1, [.ref qb, .int (nI n), .ref qk, .ref qp, .ref qn, .ref qh, .ref ql])), (qb, .inl (cB, 2000, .inl fb)), (qk, .inl (cI, 1001, .inl fk)), (qn, .inl (cI, 1001, .inl fn)), (qh, .inl (cL, 1001, .inr (.inl fh))), (ql, .inl (cL, 1001, .inr (.inl fl)))]) (va_runS (As := [.int (fb i)]) (rest := [.int (nI t), .ref qk]) ⟨hx, hb, hml, hown, hts⟩ (c_Text_isDigit l dC dI cB cI cL cZ cC cO (fb i) _ ) (va_cwS 1 hts (good_S k_498 k_499 k_2 k_500) rfl rfl rfl (by decide +kernel) ⟨Nat.le_of_ble_eq_true rfl, Nat.le_of_ble_eq_true rfl⟩) (wc_preS hK hP hD hS hA hF [] (by decide) rfl) rfl rfl hl.1 rfl (lv_room (Nat.le_of_ble_eq_true rfl)) d_Text_scanToken_61 ⟨Nat.le_of_ble_eq_true rfl, Nat.le_of_ble_eq_true rfl⟩) hP hD hS hA [] [0, 1, 2, 3, 4, 5] rfl rfl (by decide) (by decide) (fun r_16 u H locs w_15 hP hD hS => ?_)
      have hP : va_P (dC, dI) cl [(qt, .inr (1, [.ref qb, .int (nI n), .ref qk, .ref qp, .ref qn, .ref qh, .ref ql])), (qb, .inl (cB, 2000, .inl fb)), (qk, .inl (cI, 1001, .inl fk)), (qn, .inl (cI, 1001, .inl fn)), (qh, .inl (cL, 1001, .inr (.inl fh))), (ql, .inl (cL, 1001, .inr (.inl fl)))] H := hP
      have hD : va_D A [(qt, .inr (1, [.ref qb, .int (nI n), .ref qk, .ref qp, .ref qn, .ref qh, .ref ql])), (qb, .inl (cB, 2000, .inl fb)), (qk, .inl (cI, 1001, .inl fk)), (qn, .inl (cI, 1001, .inl fn)), (qh, .inl (cL, 1001, .inr (.inl fh))), (ql, .inl (cL, 1001, .inr (.inl fl)))] := hD
      subst w_15
      refine nv_bif_eq (tgt := 77) hx hb d_Text_scanToken_64 (by decide) (fun c_17 => ?_) (fun c_17 => ?_)
      · refine lv_aload_n hx hb d_Text_scanToken_77 rfl (lv_at hl 1 rfl) ?_
        refine lv_iload_n hx hb d_Text_scanToken_78 rfl (lv_at hl 2 rfl) ?_
        refine lv_iload_n hx hb d_Text_scanToken_79 rfl (lv_at hl 3 rfl) ?_
        refine lv_iload_n hx hb d_Text_scanToken_80 rfl (lv_at hl 0 rfl) ?_
        have gg : ¬ tx_digit (fb i) = true := by rw [c_17]; decide
        refine wc_i (wc := [(qt, .inr (1, [.ref qb, .int (nI n), .ref qk, .ref qp, .ref qn, .ref qh, .ref ql])), (qb, .inl (cB, 2000, .inl fb)), (qh, .inl (cL, 1001, .inr (.inl fh))), (ql, .inl (cL, 1001, .inr (.inl fl)))]) (wr := [(qk, .inl (cI, 1001, .inl fk)), (qn, .inl (cI, 1001, .inl fn))]) (va_runV (As := [.int (nI t), .int (nI i), .int (nI (tx_wend fb (n - i) i))]) (rest := [.int (nI t), .ref qk]) ⟨hx, hb, hml, hown, hts⟩ (c_Text_scanWord l dC dI cB cI cL cZ cC cO qt qb qk qp qn qh ql fb fh fl n t i (tx_wend fb (n - i) i) _ hn ht ge he2) (cwV 3 hts (good_V k_505 k_507 s_Text_scanWord k_2 k_508) rfl rfl rfl (by decide +kernel) ⟨Nat.le_of_ble_eq_true rfl, Nat.le_of_ble_eq_true rfl⟩) (wc_preV (k0 := 0) (ci := 1) (r := (R_Text, F_Text, 7)) hK hP hD hS hA hF [0, 1, 4, 5] (by decide) rfl rfl rfl) rfl rfl hl.1 rfl (lv_room (Nat.le_of_ble_eq_true rfl)) d_Text_scanToken_81 ⟨Nat.le_of_ble_eq_true rfl, Nat.le_of_ble_eq_true rfl⟩) hP hD hS hA [0, 1, 4, 5] [2, 3] rfl rfl (by decide) (by decide) (fun r_19 u H locs w_18 hP hD hS => ?_)
        have hP : va_P (dC, dI) cl [(qk, .inl (cI, 1001, .inl fk)), (qn, .inl (cI, 1001, .inl fn)), (qt, .inr (1, [.ref qb, .int (nI n), .ref qk, .ref qp, .ref qn, .ref qh, .ref ql])), (qb, .inl (cB, 2000, .inl fb)), (qh, .inl (cL, 1001, .inr (.inl u.1))), (ql, .inl (cL, 1001, .inr (.inl u.2)))] H := hP
        have hD : va_D A [(qk, .inl (cI, 1001, .inl fk)), (qn, .inl (cI, 1001, .inl fn)), (qt, .inr (1, [.ref qb, .int (nI n), .ref qk, .ref qp, .ref qn, .ref qh, .ref ql])), (qb, .inl (cB, 2000, .inl fb)), (qh, .inl (cL, 1001, .inr (.inl u.1))), (ql, .inl (cL, 1001, .inr (.inl u.2)))] := hD
        obtain ⟨rfl, rfl⟩ := w_18
        have hP : va_P (dC, dI) cl [(qk, .inl (cI, 1001, .inl fk)), (qn, .inl (cI, 1001, .inl fn)), (qt, .inr (1, [.ref qb, .int (nI n), .ref qk, .ref qp, .ref qn, .ref qh, .ref ql])), (qb, .inl (cB, 2000, .inl fb)), (qh, .inl (cL, 1001, .inr (.inl (tx_wh fb i (tx_wend fb (n - i) i) t fh)))), (ql, .inl (cL, 1001, .inr (.inl (tx_wl fb i (tx_wend fb (n - i) i) t fl))))] H := hP
        have hD : va_D A [(qk, .inl (cI, 1001, .inl fk)), (qn, .inl (cI, 1001, .inl fn)), (qt, .inr (1, [.ref qb, .int (nI n), .ref qk, .ref qp, .ref qn, .ref qh, .ref ql])), (qb, .inl (cB, 2000, .inl fb)), (qh, .inl (cL, 1001, .inr (.inl (tx_wh fb i (tx_wend fb (n - i) i) t fh)))), (ql, .inl (cL, 1001, .inr (.inl (tx_wl fb i (tx_wend fb (n - i) i) t fl))))] := hD
        refine nv_iast hx hb hK hP hD hS 0 1 rfl rfl (by omega) (by decide) d_Text_scanToken_84 (fun H locs hP hD hS => ?_)
        have hP : va_P (dC, dI) cl [(qk, .inl (cI, 1001, .inl (upd fk t (nI (tx_wk fb i (tx_wend fb (n - i) i)))))), (qn, .inl (cI, 1001, .inl fn)), (qt, .inr (1, [.ref qb, .int (nI n), .ref qk, .ref qp, .ref qn, .ref qh, .ref ql])), (qb, .inl (cB, 2000, .inl fb)), (qh, .inl (cL, 1001, .inr (.inl (tx_wh fb i (tx_wend fb (n - i) i) t fh)))), (ql, .inl (cL, 1001, .inr (.inl (tx_wl fb i (tx_wend fb (n - i) i) t fl))))] H := hP
        have hD : va_D A [(qk, .inl (cI, 1001, .inl (upd fk t (nI (tx_wk fb i (tx_wend fb (n - i) i)))))), (qn, .inl (cI, 1001, .inl fn)), (qt, .inr (1, [.ref qb, .int (nI n), .ref qk, .ref qp, .ref qn, .ref qh, .ref ql])), (qb, .inl (cB, 2000, .inl fb)), (qh, .inl (cL, 1001, .inr (.inl (tx_wh fb i (tx_wend fb (n - i) i) t fh)))), (ql, .inl (cL, 1001, .inr (.inl (tx_wl fb i (tx_wend fb (n - i) i) t fl))))] := hD
        refine lv_iload_n hx hb d_Text_scanToken_85 rfl (lv_at hl 0 rfl) ?_
        have e1 : tk_end fb n i = tx_wend fb (n - i) i := by unfold tk_end; rw [if_neg g1, if_pos ge]
        have e2 : tk_kind fb n i = (nI (tx_wk fb i (tx_wend fb (n - i) i))) := by unfold tk_kind; rw [if_neg g1, if_pos ge, if_neg gg]
        have e3 : tk_num fb n i t fn = fn := by unfold tk_num; rw [if_neg g1, if_pos ge, if_neg gg]
        have e4 : tk_hd fb n i t fh = tx_wh fb i (tx_wend fb (n - i) i) t fh := by unfold tk_hd; rw [if_neg g1, if_pos ge, if_neg gg]
        have e5 : tk_tl fb n i t fl = tx_wl fb i (tx_wend fb (n - i) i) t fl := by unfold tk_tl; rw [if_neg g1, if_pos ge, if_neg gg]
        exact wr_i hx hb hr hlocks (upd fk t (nI (tx_wk fb i (tx_wend fb (n - i) i))), fn, tx_wh fb i (tx_wend fb (n - i) i) t fh, tx_wl fb i (tx_wend fb (n - i) i) t fl) ⟨by rw [e1], by rw [e2, e3, e4, e5]⟩ hK (hP.sub [2, 3, 0, 1, 4, 5] rfl) (hD.sub [2, 3, 0, 1, 4, 5] (by decide) rfl) hS d_Text_scanToken_86
      · refine lv_aload_n hx hb d_Text_scanToken_67 rfl (lv_at hl 1 rfl) ?_
        refine lv_iload_n hx hb d_Text_scanToken_68 rfl (lv_at hl 2 rfl) ?_
        refine lv_iload_n hx hb d_Text_scanToken_69 rfl (lv_at hl 3 rfl) ?_
        refine lv_iload_n hx hb d_Text_scanToken_70 rfl (lv_at hl 0 rfl) ?_
        have gg : tx_digit (fb i) = true := c_17
        refine wc_i (wc := [(qt, .inr (1, [.ref qb, .int (nI n), .ref qk, .ref qp, .ref qn, .ref qh, .ref ql])), (qb, .inl (cB, 2000, .inl fb)), (qn, .inl (cI, 1001, .inl fn))]) (wr := [(qk, .inl (cI, 1001, .inl fk)), (qh, .inl (cL, 1001, .inr (.inl fh))), (ql, .inl (cL, 1001, .inr (.inl fl)))]) (va_runV (As := [.int (nI t), .int (nI i), .int (nI (tx_wend fb (n - i) i))]) (rest := [.int (nI t), .ref qk]) ⟨hx, hb, hml, hown, hts⟩ (c_Text_scanNumber l dC dI cB cI cL cZ cC cO qt qb qk qp qn qh ql fb fn n t i (tx_wend fb (n - i) i) _ hn ht ge he2) (cwV 3 hts (good_V k_501 k_503 s_Text_scanNumber k_2 k_504) rfl rfl rfl (by decide +kernel) ⟨Nat.le_of_ble_eq_true rfl, Nat.le_of_ble_eq_true rfl⟩) (wc_preV (k0 := 0) (ci := 1) (r := (R_Text, F_Text, 7)) hK hP hD hS hA hF [0, 1, 3] (by decide) rfl rfl rfl) rfl rfl hl.1 rfl (lv_room (Nat.le_of_ble_eq_true rfl)) d_Text_scanToken_71 ⟨Nat.le_of_ble_eq_true rfl, Nat.le_of_ble_eq_true rfl⟩) hP hD hS hA [0, 1, 3] [2, 4, 5] rfl rfl (by decide) (by decide) (fun r_21 u H locs w_20 hP hD hS => ?_)
        have hP : va_P (dC, dI) cl [(qk, .inl (cI, 1001, .inl fk)), (qh, .inl (cL, 1001, .inr (.inl fh))), (ql, .inl (cL, 1001, .inr (.inl fl))), (qt, .inr (1, [.ref qb, .int (nI n), .ref qk, .ref qp, .ref qn, .ref qh, .ref ql])), (qb, .inl (cB, 2000, .inl fb)), (qn, .inl (cI, 1001, .inl u))] H := hP
        have hD : va_D A [(qk, .inl (cI, 1001, .inl fk)), (qh, .inl (cL, 1001, .inr (.inl fh))), (ql, .inl (cL, 1001, .inr (.inl fl))), (qt, .inr (1, [.ref qb, .int (nI n), .ref qk, .ref qp, .ref qn, .ref qh, .ref ql])), (qb, .inl (cB, 2000, .inl fb)), (qn, .inl (cI, 1001, .inl u))] := hD
        obtain ⟨rfl, rfl⟩ := w_20
        have hP : va_P (dC, dI) cl [(qk, .inl (cI, 1001, .inl fk)), (qh, .inl (cL, 1001, .inr (.inl fh))), (ql, .inl (cL, 1001, .inr (.inl fl))), (qt, .inr (1, [.ref qb, .int (nI n), .ref qk, .ref qp, .ref qn, .ref qh, .ref ql])), (qb, .inl (cB, 2000, .inl fb)), (qn, .inl (cI, 1001, .inl (tx_numf fb i (tx_wend fb (n - i) i) t fn)))] H := hP
        have hD : va_D A [(qk, .inl (cI, 1001, .inl fk)), (qh, .inl (cL, 1001, .inr (.inl fh))), (ql, .inl (cL, 1001, .inr (.inl fl))), (qt, .inr (1, [.ref qb, .int (nI n), .ref qk, .ref qp, .ref qn, .ref qh, .ref ql])), (qb, .inl (cB, 2000, .inl fb)), (qn, .inl (cI, 1001, .inl (tx_numf fb i (tx_wend fb (n - i) i) t fn)))] := hD
        refine lv_goto (tgt := 84) hx hb d_Text_scanToken_74 (by decide) ?_
        refine nv_iast hx hb hK hP hD hS 0 1 rfl rfl (by omega) (by decide) d_Text_scanToken_84 (fun H locs hP hD hS => ?_)
        have hP : va_P (dC, dI) cl [(qk, .inl (cI, 1001, .inl (upd fk t (nI (tx_numk fb i (tx_wend fb (n - i) i)))))), (qh, .inl (cL, 1001, .inr (.inl fh))), (ql, .inl (cL, 1001, .inr (.inl fl))), (qt, .inr (1, [.ref qb, .int (nI n), .ref qk, .ref qp, .ref qn, .ref qh, .ref ql])), (qb, .inl (cB, 2000, .inl fb)), (qn, .inl (cI, 1001, .inl (tx_numf fb i (tx_wend fb (n - i) i) t fn)))] H := hP
        have hD : va_D A [(qk, .inl (cI, 1001, .inl (upd fk t (nI (tx_numk fb i (tx_wend fb (n - i) i)))))), (qh, .inl (cL, 1001, .inr (.inl fh))), (ql, .inl (cL, 1001, .inr (.inl fl))), (qt, .inr (1, [.ref qb, .int (nI n), .ref qk, .ref qp, .ref qn, .ref qh, .ref ql])), (qb, .inl (cB, 2000, .inl fb)), (qn, .inl (cI, 1001, .inl (tx_numf fb i (tx_wend fb (n - i) i) t fn)))] := hD
        refine lv_iload_n hx hb d_Text_scanToken_85 rfl (lv_at hl 0 rfl) ?_
        have e1 : tk_end fb n i = tx_wend fb (n - i) i := by unfold tk_end; rw [if_neg g1, if_pos ge]
        have e2 : tk_kind fb n i = (nI (tx_numk fb i (tx_wend fb (n - i) i))) := by unfold tk_kind; rw [if_neg g1, if_pos ge, if_pos gg]
        have e3 : tk_num fb n i t fn = tx_numf fb i (tx_wend fb (n - i) i) t fn := by unfold tk_num; rw [if_neg g1, if_pos ge, if_pos gg]
        have e4 : tk_hd fb n i t fh = fh := by unfold tk_hd; rw [if_neg g1, if_pos ge, if_pos gg]
        have e5 : tk_tl fb n i t fl = fl := by unfold tk_tl; rw [if_neg g1, if_pos ge, if_pos gg]
        exact wr_i hx hb hr hlocks (upd fk t (nI (tx_numk fb i (tx_wend fb (n - i) i))), tx_numf fb i (tx_wend fb (n - i) i) t fn, fh, fl) ⟨by rw [e1], by rw [e2, e3, e4, e5]⟩ hK (hP.sub [3, 4, 0, 5, 1, 2] rfl) (hD.sub [3, 4, 0, 5, 1, 2] (by decide) rfl) hS d_Text_scanToken_86
  · have g0 : n ≤ i := by omega
    refine lv_aload_n hx hb d_Text_scanToken_8 rfl (lv_at hl 0 rfl) ?_
    refine va_get (D := (dC, dI)) (ci := 1) (v := .ref qk) (C := R_Text) (T := F_Text) (N := 7) hx hb hts i_Text hown hK hP 0 rfl rfl 2 (by decide) (hts _ k_40) (fun _ h9 => h9) rfl d_Text_scanToken_9 ?_
    refine lv_iload_n hx hb d_Text_scanToken_12 rfl (lv_at hl 1 rfl) ?_
    refine lv_iconst (v := nI 0) hx hb d_Text_scanToken_13 (by decide) ?_
    refine nv_iast hx hb hK hP hD hS 2 1 rfl rfl (by omega) (by decide) d_Text_scanToken_14 (fun H locs hP hD hS => ?_)
    have hP : va_P (dC, dI) cl [(qt, .inr (1, [.ref qb, .int (nI n), .ref qk, .ref qp, .ref qn, .ref qh, .ref ql])), (qb, .inl (cB, 2000, .inl fb)), (qk, .inl (cI, 1001, .inl (upd fk t (nI 0)))), (qn, .inl (cI, 1001, .inl fn)), (qh, .inl (cL, 1001, .inr (.inl fh))), (ql, .inl (cL, 1001, .inr (.inl fl)))] H := hP
    have hD : va_D A [(qt, .inr (1, [.ref qb, .int (nI n), .ref qk, .ref qp, .ref qn, .ref qh, .ref ql])), (qb, .inl (cB, 2000, .inl fb)), (qk, .inl (cI, 1001, .inl (upd fk t (nI 0)))), (qn, .inl (cI, 1001, .inl fn)), (qh, .inl (cL, 1001, .inr (.inl fh))), (ql, .inl (cL, 1001, .inr (.inl fl)))] := hD
    refine lv_iload_n hx hb d_Text_scanToken_15 rfl (lv_at hl 2 rfl) ?_
    have e1 : tk_end fb n i = i := by unfold tk_end; rw [if_pos g0]
    have e2 : tk_kind fb n i = (nI 0) := by unfold tk_kind; rw [if_pos g0]
    have e3 : tk_num fb n i t fn = fn := by unfold tk_num; rw [if_pos g0]
    have e4 : tk_hd fb n i t fh = fh := by unfold tk_hd; rw [if_pos g0]
    have e5 : tk_tl fb n i t fl = fl := by unfold tk_tl; rw [if_pos g0]
    exact wr_i hx hb hr hlocks (upd fk t (nI 0), fn, fh, fl) ⟨by rw [e1], by rw [e2, e3, e4, e5]⟩ hK hP hD hS d_Text_scanToken_16
