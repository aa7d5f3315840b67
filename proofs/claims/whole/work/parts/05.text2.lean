theorem tx_line_u (b : Nat → Int32) (n i : Nat) : tx_line b (n - i) i = if i < n then (if b i = nI 10 then i else tx_line b (n - (i + 1)) (i + 1)) else i := by
  by_cases h : i < n
  · rw [if_pos h, show n - i = (n - (i + 1)) + 1 by omega]; rfl
  · rw [if_neg h, show n - i = 0 by omega]; rfl
theorem tx_line_le (b : Nat → Int32) : ∀ k i, tx_line b k i ≤ i + k
  | 0, i => Nat.le_refl i
  | k + 1, i => by
    show (if b i = nI 10 then i else tx_line b k (i + 1)) ≤ i + (k + 1)
    split
    · omega
    · have := tx_line_le b k (i + 1); omega
theorem tx_com_u (b : Nat → Int32) (n i : Nat) : tx_com b (n - 1 - i) i = if i + 1 < n then (if b i = nI 42 ∧ b (i + 1) = nI 47 then some (i + 2) else tx_com b (n - 1 - (i + 1)) (i + 1)) else none := by
  by_cases h : i + 1 < n
  · rw [if_pos h, show n - 1 - i = (n - 1 - (i + 1)) + 1 by omega]; rfl
  · rw [if_neg h, show n - 1 - i = 0 by omega]; rfl
theorem tx_com_le (b : Nat → Int32) : ∀ k i j, tx_com b k i = some j → j ≤ i + k + 1
  | 0, i, j, h => by cases h
  | k + 1, i, j, h => by
    have h : (if b i = nI 42 ∧ b (i + 1) = nI 47 then some (i + 2) else tx_com b k (i + 1)) = some j := h
    split at h
    · cases h; omega
    · have := tx_com_le b k (i + 1) j h; omega
theorem d_Text_lineEnd_0 : decode b_Text_lineEnd 0 = .ok (.iload_n 1, 1) := by decide +kernel
theorem d_Text_lineEnd_1 : decode b_Text_lineEnd 1 = .ok (.istore_n 2, 1) := by decide +kernel
theorem d_Text_lineEnd_2 : decode b_Text_lineEnd 2 = .ok (.iload_n 2, 1) := by decide +kernel
theorem d_Text_lineEnd_3 : decode b_Text_lineEnd 3 = .ok (.aload_n 0, 1) := by decide +kernel
theorem d_Text_lineEnd_4 : decode b_Text_lineEnd 4 = .ok (.getfield 13, 3) := by decide +kernel
theorem d_Text_lineEnd_7 : decode b_Text_lineEnd 7 = .ok (.if_icmp .ge 20, 3) := by decide +kernel
theorem d_Text_lineEnd_10 : decode b_Text_lineEnd 10 = .ok (.aload_n 0, 1) := by decide +kernel
theorem d_Text_lineEnd_11 : decode b_Text_lineEnd 11 = .ok (.getfield 9, 3) := by decide +kernel
theorem d_Text_lineEnd_14 : decode b_Text_lineEnd 14 = .ok (.iload_n 2, 1) := by decide +kernel
theorem d_Text_lineEnd_15 : decode b_Text_lineEnd 15 = .ok (.baload, 1) := by decide +kernel
theorem d_Text_lineEnd_16 : decode b_Text_lineEnd 16 = .ok (.bipush 10, 2) := by decide +kernel
theorem d_Text_lineEnd_18 : decode b_Text_lineEnd 18 = .ok (.if_icmp .eq 9, 3) := by decide +kernel
theorem d_Text_lineEnd_21 : decode b_Text_lineEnd 21 = .ok (.iinc 2 1, 3) := by decide +kernel
theorem d_Text_lineEnd_24 : decode b_Text_lineEnd 24 = .ok (.goto (-22), 3) := by decide +kernel
theorem d_Text_lineEnd_27 : decode b_Text_lineEnd 27 = .ok (.iload_n 2, 1) := by decide +kernel
theorem d_Text_lineEnd_28 : decode b_Text_lineEnd 28 = .ok (.ireturn, 1) := by decide +kernel
set_option maxHeartbeats 4000000 in
set_option maxRecDepth 100000 in
theorem lp_Text_lineEnd {p : Program} {l : Launch} {e : Env} {s : State} {m : MethodId} {args : Array Value} {below : List Frame} {meth : Method} {c : Code} {Q : State → Prop} {A : Nat → Prop} {dC : Nat → ClassId} {dI : Nat → Nat → Nat} {cB cI cL cZ cC cO : ClassId} {qt qb qk qp qn qh ql : Nat} {fb : Nat → Int32} {n : Nat} {i0 r : Nat} (hn : n ≤ 2000) (hx : p.tables.exec = Jvm.exec) (hb : c.code = b_Text_lineEnd) (hml : c.maxLocals = 3) (hown : s.vm.findClass R_Text = some m.cls) (hts : ∀ w ∈ tb, w.before args s = true) (hA : ∀ q, s.heap.size ≤ q → A q) (hF : stF A s) (hK : va_K (dC, dI) cl [(cB, .byte), (cI, .int), (cL, .long), (cZ, .boolean), (cC, .char), (cO, .object "java/lang/Object")] s)
    (kx : ∀  (H : Heap) (locs : List Loc) (ls : Array Slot), va_P (dC, dI) cl [(qt, .inr (1, [.ref qb, .int (nI n), .ref qk, .ref qp, .ref qn, .ref qh, .ref ql])), (qb, .inl (cB, 2000, .inl fb))] H → va_D A [(qt, .inr (1, [.ref qb, .int (nI n), .ref qk, .ref qp, .ref qn, .ref qh, .ref ql])), (qb, .inl (cB, 2000, .inl fb))] → va_S A s.heap H locs → lv_has ls 3 [(2, .int (nI r)), (0, .ref qt), (1, .int (nI i0))] → W p l e (headSpec w_Text_lineEnd { frames := 0, cells := 0, slots := 0, locals := 0 }).room s m args below meth c H locs 0 0 Q (F0 m 27 ls [])) :
    ∀ (k : Nat) (i : Nat) (H : Heap) (locs : List Loc) (ls : Array Slot), n < i + k → i ≤ n → tx_line fb (n - i) i = r → va_P (dC, dI) cl [(qt, .inr (1, [.ref qb, .int (nI n), .ref qk, .ref qp, .ref qn, .ref qh, .ref ql])), (qb, .inl (cB, 2000, .inl fb))] H → va_D A [(qt, .inr (1, [.ref qb, .int (nI n), .ref qk, .ref qp, .ref qn, .ref qh, .ref ql])), (qb, .inl (cB, 2000, .inl fb))] → va_S A s.heap H locs → lv_has ls 3 [(2, .int (nI i)), (0, .ref qt), (1, .int (nI i0))] → W p l e (headSpec w_Text_lineEnd { frames := 0, cells := 0, slots := 0, locals := 0 }).room s m args below meth c H locs 0 0 Q (F0 m 2 ls []) := by
  intro k
  induction k with
  | zero =>
    intro i H locs ls hk hi hr hP hD hS hl
    exfalso; omega
  | succ k ih =>
    intro i H locs ls hk hi hr hP hD hS hl
    refine lv_iload_n hx hb d_Text_lineEnd_2 rfl (lv_at hl 0 rfl) ?_
    refine lv_aload_n hx hb d_Text_lineEnd_3 rfl (lv_at hl 1 rfl) ?_
    refine va_get (D := (dC, dI)) (ci := 1) (v := .int (nI n)) (C := R_Text) (T := F_Text) (N := 7) hx hb hts i_Text hown hK hP 0 rfl rfl 1 (by decide) (hts _ k_38) (fun _ h9 => h9) rfl d_Text_lineEnd_4 ?_
    refine nv_icmp_ge (tgt := 27) hx hb (by omega) (by omega) d_Text_lineEnd_7 (by decide) (fun c_1 => ?_) (fun c_1 => ?_)
    · have hri : r = i := by first | (rw [← hr, tx_line_u, if_neg (by omega)]) | (rw [← hr, tx_line_u, if_pos (by omega), if_pos c_1])
      subst hri
      exact kx H locs ls hP hD hS (lv_sub hl [0, 1, 2] rfl)
    · refine lv_aload_n hx hb d_Text_lineEnd_10 rfl (lv_at hl 1 rfl) ?_
      refine va_get (D := (dC, dI)) (ci := 1) (v := .ref qb) (C := R_Text) (T := F_Text) (N := 7) hx hb hts i_Text hown hK hP 0 rfl rfl 0 (by decide) (hts _ k_37) (fun _ h9 => h9) rfl d_Text_lineEnd_11 ?_
      refine lv_iload_n hx hb d_Text_lineEnd_14 rfl (lv_at hl 0 rfl) ?_
      refine nv_bald hx hb hK hP 1 0 rfl rfl (by omega) (by decide) d_Text_lineEnd_15 ?_
      refine lv_bipush (v := nI 10) hx hb d_Text_lineEnd_16 (by decide) ?_
      refine lv_icmp_eq (tgt := 27) hx hb d_Text_lineEnd_18 (by decide) (fun c_2 => ?_) (fun c_2 => ?_)
      · have hri : r = i := by first | (rw [← hr, tx_line_u, if_neg (by omega)]) | (rw [← hr, tx_line_u, if_pos (by omega), if_pos c_2])
        subst hri
        exact kx H locs ls hP hD hS (lv_sub hl [0, 1, 2] rfl)
      · refine lv_iinc (v := nI (i + 1)) (lv' := [(2, .int (nI (i + 1))), (0, .ref qt), (1, .int (nI i0))]) hx hb d_Text_lineEnd_21 hl (k := 0) rfl (nI_1 _) (by decide) rfl (fun ls hl => ?_)
        refine lv_goto (tgt := 2) hx hb d_Text_lineEnd_24 (by decide) ?_
        exact ih (i + 1) H locs ls (by omega) (by omega) (by rw [← hr, tx_line_u fb n i, if_pos (by omega), if_neg c_2]) hP hD hS (lv_sub hl [0, 1, 2] rfl)
set_option maxHeartbeats 4000000 in
set_option maxRecDepth 100000 in
/-- lineEnd(i): the place of the next 10 or the end -/
theorem c_Text_lineEnd (l : Launch) (dC : Nat → ClassId) (dI : Nat → Nat → Nat) (cB cI cL cZ cC cO : ClassId) (qt qb qk qp qn qh ql : Nat) (fb : Nat → Int32) (n : Nat) (i : Nat) (sz : Nat) (hn : n ≤ 2000) (hi : i ≤ n) : Met l y_Text_lineEnd w_Text_lineEnd ({ frames := 0, cells := 0, slots := 0, locals := 0 }) (va_Pc [.ref qt, .int (nI i)] (wB (dC, dI) cl [(cB, .byte), (cI, .int), (cL, .long), (cZ, .boolean), (cC, .char), (cO, .object "java/lang/Object")] sz [(qt, .inr (1, [.ref qb, .int (nI n), .ref qk, .ref qp, .ref qn, .ref qh, .ref ql])), (qb, .inl (cB, 2000, .inl fb))])) (va_Qi (fun (r : Int32) (u : Unit) => r = nI (tx_line fb (n - i) i)) (fun _ t => wA (dC, dI) cl [(cB, .byte), (cI, .int), (cL, .long), (cZ, .boolean), (cC, .char), (cO, .object "java/lang/Object")] (va_A [(qt, .inr (1, [.ref qb, .int (nI n), .ref qk, .ref qp, .ref qn, .ref qh, .ref ql])), (qb, .inl (cB, 2000, .inl fb))] sz) [(qt, .inr (1, [.ref qb, .int (nI n), .ref qk, .ref qp, .ref qn, .ref qh, .ref ql])), (qb, .inl (cB, 2000, .inl fb))] t) (va_A [(qt, .inr (1, [.ref qb, .int (nI n), .ref qk, .ref qp, .ref qn, .ref qh, .ref ql])), (qb, .inl (cB, 2000, .inl fb))] sz)) 0 0 (va_A [(qt, .inr (1, [.ref qb, .int (nI n), .ref qk, .ref qp, .ref qn, .ref qh, .ref ql])), (qb, .inl (cB, 2000, .inl fb))] sz) := by
  refine Met.ofW (cc := b_Text_lineEnd) (maxL := 3) (ret := (some ClassFile.FieldType.int)) (by decide) rfl ?_
  intro p e s m args below meth c s₁ B hml hv
  obtain ⟨rfl, hsz, hP, hK, hD0, hF⟩ := hv
  have hx := B.exec
  have hb := B.bytes
  have hr := B.returns
  have hts := atoms_spec (ws := w_Text_lineEnd) B.pre
  have hts : ∀ w ∈ tb, w.before _ s = true := fun w h => hts w (List.mem_cons_of_mem _ h)
  have hown : s.vm.findClass R_Text = some m.cls := findClass_of_methodNamed B.named
  have hlocks := B.notSynchronized
  subst hsz
  have hD := hD0.self (sz := s.heap.size)
  generalize hAe : va_A [(qt, .inr (1, [.ref qb, .int (nI n), .ref qk, .ref qp, .ref qn, .ref qh, .ref ql])), (qb, .inl (cB, 2000, .inl fb))] s.heap.size = A at hD hF ⊢
  have hA : ∀ q : Nat, s.heap.size ≤ q → A q := fun q h => by rw [← hAe]; exact Or.inr h
  have hS : va_S A s.heap s.heap [] := va_S.rf
  have hP : va_P (dC, dI) cl [(qt, .inr (1, [.ref qb, .int (nI n), .ref qk, .ref qp, .ref qn, .ref qh, .ref ql])), (qb, .inl (cB, 2000, .inl fb))] s.heap := hP
  have hl := lv_entry ([.ref qt, .int (nI i)]) (n := 3) (Nat.le_of_ble_eq_true rfl)
  rw [lg_entry_eq]
  generalize (lg_sl ([.ref qt, .int (nI i)]) ++ List.replicate (3 - (lg_sl ([.ref qt, .int (nI i)])).length) Slot.unset).toArray = ls at hl ⊢
  have hl : lv_has ls 3 [(0, .ref qt), (1, .int (nI i))] := hl
  refine lv_iload_n hx hb d_Text_lineEnd_0 rfl (lv_at hl 1 rfl) ?_
  refine lv_istore_n (lv' := [(2, .int (nI i)), (0, .ref qt), (1, .int (nI i))]) hx hb d_Text_lineEnd_1 rfl hl (by decide) rfl (fun ls hl => ?_)
  refine lp_Text_lineEnd (i0 := i) (r := tx_line fb (n - i) i) hn hx hb hml hown hts hA hF hK (fun H locs ls hP hD hS hl => ?_) (n + 1 - i) i _ _ ls (by omega) hi rfl hP hD hS (lv_sub hl [0, 1, 2] rfl)
  refine lv_iload_n hx hb d_Text_lineEnd_27 rfl (lv_at hl 0 rfl) ?_
  exact wr_i hx hb hr hlocks () rfl hK hP hD hS d_Text_lineEnd_28
theorem d_Text_behindComment_0 : decode b_Text_behindComment 0 = .ok (.iload_n 1, 1) := by decide +kernel
theorem d_Text_behindComment_1 : decode b_Text_behindComment 1 = .ok (.iconst 2, 1) := by decide +kernel
theorem d_Text_behindComment_2 : decode b_Text_behindComment 2 = .ok (.iadd, 1) := by decide +kernel
theorem d_Text_behindComment_3 : decode b_Text_behindComment 3 = .ok (.istore_n 2, 1) := by decide +kernel
theorem d_Text_behindComment_4 : decode b_Text_behindComment 4 = .ok (.iload_n 2, 1) := by decide +kernel
theorem d_Text_behindComment_5 : decode b_Text_behindComment 5 = .ok (.iconst 1, 1) := by decide +kernel
theorem d_Text_behindComment_6 : decode b_Text_behindComment 6 = .ok (.iadd, 1) := by decide +kernel
theorem d_Text_behindComment_7 : decode b_Text_behindComment 7 = .ok (.aload_n 0, 1) := by decide +kernel
theorem d_Text_behindComment_8 : decode b_Text_behindComment 8 = .ok (.getfield 13, 3) := by decide +kernel
theorem d_Text_behindComment_11 : decode b_Text_behindComment 11 = .ok (.if_icmp .ge 37, 3) := by decide +kernel
theorem d_Text_behindComment_14 : decode b_Text_behindComment 14 = .ok (.aload_n 0, 1) := by decide +kernel
theorem d_Text_behindComment_15 : decode b_Text_behindComment 15 = .ok (.getfield 9, 3) := by decide +kernel
theorem d_Text_behindComment_18 : decode b_Text_behindComment 18 = .ok (.iload_n 2, 1) := by decide +kernel
theorem d_Text_behindComment_19 : decode b_Text_behindComment 19 = .ok (.baload, 1) := by decide +kernel
theorem d_Text_behindComment_20 : decode b_Text_behindComment 20 = .ok (.bipush 42, 2) := by decide +kernel
theorem d_Text_behindComment_22 : decode b_Text_behindComment 22 = .ok (.if_icmp .ne 20, 3) := by decide +kernel
theorem d_Text_behindComment_25 : decode b_Text_behindComment 25 = .ok (.aload_n 0, 1) := by decide +kernel
theorem d_Text_behindComment_26 : decode b_Text_behindComment 26 = .ok (.getfield 9, 3) := by decide +kernel
theorem d_Text_behindComment_29 : decode b_Text_behindComment 29 = .ok (.iload_n 2, 1) := by decide +kernel
theorem d_Text_behindComment_30 : decode b_Text_behindComment 30 = .ok (.iconst 1, 1) := by decide +kernel
theorem d_Text_behindComment_31 : decode b_Text_behindComment 31 = .ok (.iadd, 1) := by decide +kernel
theorem d_Text_behindComment_32 : decode b_Text_behindComment 32 = .ok (.baload, 1) := by decide +kernel
theorem d_Text_behindComment_33 : decode b_Text_behindComment 33 = .ok (.bipush 47, 2) := by decide +kernel
theorem d_Text_behindComment_35 : decode b_Text_behindComment 35 = .ok (.if_icmp .ne 7, 3) := by decide +kernel
theorem d_Text_behindComment_38 : decode b_Text_behindComment 38 = .ok (.iload_n 2, 1) := by decide +kernel
theorem d_Text_behindComment_39 : decode b_Text_behindComment 39 = .ok (.iconst 2, 1) := by decide +kernel
theorem d_Text_behindComment_40 : decode b_Text_behindComment 40 = .ok (.iadd, 1) := by decide +kernel
theorem d_Text_behindComment_41 : decode b_Text_behindComment 41 = .ok (.ireturn, 1) := by decide +kernel
theorem d_Text_behindComment_42 : decode b_Text_behindComment 42 = .ok (.iinc 2 1, 3) := by decide +kernel
theorem d_Text_behindComment_45 : decode b_Text_behindComment 45 = .ok (.goto (-41), 3) := by decide +kernel
theorem d_Text_behindComment_48 : decode b_Text_behindComment 48 = .ok (.iload_n 1, 1) := by decide +kernel
theorem d_Text_behindComment_49 : decode b_Text_behindComment 49 = .ok (.ireturn, 1) := by decide +kernel
set_option maxHeartbeats 4000000 in
set_option maxRecDepth 100000 in
theorem lp_Text_behindComment {p : Program} {l : Launch} {e : Env} {s : State} {m : MethodId} {args : Array Value} {below : List Frame} {meth : Method} {c : Code} {Q : State → Prop} {A : Nat → Prop} {dC : Nat → ClassId} {dI : Nat → Nat → Nat} {cB cI cL cZ cC cO : ClassId} {qt qb qk qp qn qh ql : Nat} {fb : Nat → Int32} {n : Nat} {i0 : Nat} {r : Option Nat} (hn : n ≤ 2000) (hx : p.tables.exec = Jvm.exec) (hb : c.code = b_Text_behindComment) (hml : c.maxLocals = 3) (hown : s.vm.findClass R_Text = some m.cls) (hts : ∀ w ∈ tb, w.before args s = true) (hA : ∀ q, s.heap.size ≤ q → A q) (hF : stF A s) (hK : va_K (dC, dI) cl [(cB, .byte), (cI, .int), (cL, .long), (cZ, .boolean), (cC, .char), (cO, .object "java/lang/Object")] s)
    (kx : ∀ (j : Nat) (H : Heap) (locs : List Loc) (ls : Array Slot), r = some j → va_P (dC, dI) cl [(qt, .inr (1, [.ref qb, .int (nI n), .ref qk, .ref qp, .ref qn, .ref qh, .ref ql])), (qb, .inl (cB, 2000, .inl fb))] H → va_D A [(qt, .inr (1, [.ref qb, .int (nI n), .ref qk, .ref qp, .ref qn, .ref qh, .ref ql])), (qb, .inl (cB, 2000, .inl fb))] → va_S A s.heap H locs → lv_has ls 3 [(0, .ref qt), (1, .int (nI i0))] → W p l e (headSpec w_Text_behindComment { frames := 0, cells := 0, slots := 0, locals := 0 }).room s m args below meth c H locs 0 0 Q (F0 m 41 ls [.int (nI j)])) (ky : ∀  (H : Heap) (locs : List Loc) (ls : Array Slot), r = none → va_P (dC, dI) cl [(qt, .inr (1, [.ref qb, .int (nI n), .ref qk, .ref qp, .ref qn, .ref qh, .ref ql])), (qb, .inl (cB, 2000, .inl fb))] H → va_D A [(qt, .inr (1, [.ref qb, .int (nI n), .ref qk, .ref qp, .ref qn, .ref qh, .ref ql])), (qb, .inl (cB, 2000, .inl fb))] → va_S A s.heap H locs → lv_has ls 3 [(0, .ref qt), (1, .int (nI i0))] → W p l e (headSpec w_Text_behindComment { frames := 0, cells := 0, slots := 0, locals := 0 }).room s m args below meth c H locs 0 0 Q (F0 m 49 ls [.int (nI i0)])) :
    ∀ (k : Nat) (i : Nat) (H : Heap) (locs : List Loc) (ls : Array Slot), n < i + k → i ≤ n → tx_com fb (n - 1 - i) i = r → va_P (dC, dI) cl [(qt, .inr (1, [.ref qb, .int (nI n), .ref qk, .ref qp, .ref qn, .ref qh, .ref ql])), (qb, .inl (cB, 2000, .inl fb))] H → va_D A [(qt, .inr (1, [.ref qb, .int (nI n), .ref qk, .ref qp, .ref qn, .ref qh, .ref ql])), (qb, .inl (cB, 2000, .inl fb))] → va_S A s.heap H locs → lv_has ls 3 [(2, .int (nI i)), (0, .ref qt), (1, .int (nI i0))] → W p l e (headSpec w_Text_behindComment { frames := 0, cells := 0, slots := 0, locals := 0 }).room s m args below meth c H locs 0 0 Q (F0 m 4 ls []) := by
  intro k
  induction k with
  | zero =>
    intro i H locs ls hk hi hr hP hD hS hl
    exfalso; omega
  | succ k ih =>
    intro i H locs ls hk hi hr hP hD hS hl
    refine lv_iload_n hx hb d_Text_behindComment_4 rfl (lv_at hl 0 rfl) ?_
    refine lv_iconst (v := nI 1) hx hb d_Text_behindComment_5 (by decide) ?_
    refine nv_iadd hx hb d_Text_behindComment_6 ?_
    refine lv_aload_n hx hb d_Text_behindComment_7 rfl (lv_at hl 1 rfl) ?_
    refine va_get (D := (dC, dI)) (ci := 1) (v := .int (nI n)) (C := R_Text) (T := F_Text) (N := 7) hx hb hts i_Text hown hK hP 0 rfl rfl 1 (by decide) (hts _ k_38) (fun _ h9 => h9) rfl d_Text_behindComment_8 ?_
    refine nv_icmp_ge (tgt := 48) hx hb (by omega) (by omega) d_Text_behindComment_11 (by decide) (fun c_1 => ?_) (fun c_1 => ?_)
    · refine lv_iload_n hx hb d_Text_behindComment_48 rfl (lv_at hl 2 rfl) ?_
      exact ky H locs ls (by rw [← hr, tx_com_u, if_neg (by omega)]) hP hD hS (lv_sub hl [1, 2] rfl)
    · refine lv_aload_n hx hb d_Text_behindComment_14 rfl (lv_at hl 1 rfl) ?_
      refine va_get (D := (dC, dI)) (ci := 1) (v := .ref qb) (C := R_Text) (T := F_Text) (N := 7) hx hb hts i_Text hown hK hP 0 rfl rfl 0 (by decide) (hts _ k_37) (fun _ h9 => h9) rfl d_Text_behindComment_15 ?_
      refine lv_iload_n hx hb d_Text_behindComment_18 rfl (lv_at hl 0 rfl) ?_
      refine nv_bald hx hb hK hP 1 0 rfl rfl (by omega) (by decide) d_Text_behindComment_19 ?_
      refine lv_bipush (v := nI 42) hx hb d_Text_behindComment_20 (by decide) ?_
      refine lv_icmp_ne (tgt := 42) hx hb d_Text_behindComment_22 (by decide) (fun c_2 => ?_) (fun c_2 => ?_)
      · refine lv_iinc (v := nI (i + 1)) (lv' := [(2, .int (nI (i + 1))), (0, .ref qt), (1, .int (nI i0))]) hx hb d_Text_behindComment_42 hl (k := 0) rfl (nI_1 _) (by decide) rfl (fun ls hl => ?_)
        refine lv_goto (tgt := 4) hx hb d_Text_behindComment_45 (by decide) ?_
        exact ih (i + 1) H locs ls (by omega) (by omega) (by rw [← hr, tx_com_u fb n i, if_pos (by omega), if_neg (fun q => c_2 (by first | exact q.1 | exact q.2))]) hP hD hS (lv_sub hl [0, 1, 2] rfl)
      · refine lv_aload_n hx hb d_Text_behindComment_25 rfl (lv_at hl 1 rfl) ?_
        refine va_get (D := (dC, dI)) (ci := 1) (v := .ref qb) (C := R_Text) (T := F_Text) (N := 7) hx hb hts i_Text hown hK hP 0 rfl rfl 0 (by decide) (hts _ k_37) (fun _ h9 => h9) rfl d_Text_behindComment_26 ?_
        refine lv_iload_n hx hb d_Text_behindComment_29 rfl (lv_at hl 0 rfl) ?_
        refine lv_iconst (v := nI 1) hx hb d_Text_behindComment_30 (by decide) ?_
        refine nv_iadd hx hb d_Text_behindComment_31 ?_
        refine nv_bald hx hb hK hP 1 0 rfl rfl (by omega) (by decide) d_Text_behindComment_32 ?_
        refine lv_bipush (v := nI 47) hx hb d_Text_behindComment_33 (by decide) ?_
        refine lv_icmp_ne (tgt := 42) hx hb d_Text_behindComment_35 (by decide) (fun c_3 => ?_) (fun c_3 => ?_)
        · refine lv_iinc (v := nI (i + 1)) (lv' := [(2, .int (nI (i + 1))), (0, .ref qt), (1, .int (nI i0))]) hx hb d_Text_behindComment_42 hl (k := 0) rfl (nI_1 _) (by decide) rfl (fun ls hl => ?_)
          refine lv_goto (tgt := 4) hx hb d_Text_behindComment_45 (by decide) ?_
          exact ih (i + 1) H locs ls (by omega) (by omega) (by rw [← hr, tx_com_u fb n i, if_pos (by omega), if_neg (fun q => c_3 (by first | exact q.1 | exact q.2))]) hP hD hS (lv_sub hl [0, 1, 2] rfl)
        · refine lv_iload_n hx hb d_Text_behindComment_38 rfl (lv_at hl 0 rfl) ?_
          refine lv_iconst (v := nI 2) hx hb d_Text_behindComment_39 (by decide) ?_
          refine nv_iadd hx hb d_Text_behindComment_40 ?_
          exact kx (i + 2) H locs ls (by rw [← hr, tx_com_u, if_pos (by omega), if_pos ⟨c_2, c_3⟩]) hP hD hS (lv_sub hl [1, 2] rfl)
set_option maxHeartbeats 4000000 in
set_option maxRecDepth 100000 in
/-- behindComment(i): behind the comment that begins at i, or i -/
theorem c_Text_behindComment (l : Launch) (dC : Nat → ClassId) (dI : Nat → Nat → Nat) (cB cI cL cZ cC cO : ClassId) (qt qb qk qp qn qh ql : Nat) (fb : Nat → Int32) (n : Nat) (i : Nat) (sz : Nat) (hn : n ≤ 2000) (hi : i + 2 ≤ n) : Met l y_Text_behindComment w_Text_behindComment ({ frames := 0, cells := 0, slots := 0, locals := 0 }) (va_Pc [.ref qt, .int (nI i)] (wB (dC, dI) cl [(cB, .byte), (cI, .int), (cL, .long), (cZ, .boolean), (cC, .char), (cO, .object "java/lang/Object")] sz [(qt, .inr (1, [.ref qb, .int (nI n), .ref qk, .ref qp, .ref qn, .ref qh, .ref ql])), (qb, .inl (cB, 2000, .inl fb))])) (va_Qi (fun (r : Int32) (u : Unit) => r = nI ((tx_com fb (n - 1 - (i + 2)) (i + 2)).getD i)) (fun _ t => wA (dC, dI) cl [(cB, .byte), (cI, .int), (cL, .long), (cZ, .boolean), (cC, .char), (cO, .object "java/lang/Object")] (va_A [(qt, .inr (1, [.ref qb, .int (nI n), .ref qk, .ref qp, .ref qn, .ref qh, .ref ql])), (qb, .inl (cB, 2000, .inl fb))] sz) [(qt, .inr (1, [.ref qb, .int (nI n), .ref qk, .ref qp, .ref qn, .ref qh, .ref ql])), (qb, .inl (cB, 2000, .inl fb))] t) (va_A [(qt, .inr (1, [.ref qb, .int (nI n), .ref qk, .ref qp, .ref qn, .ref qh, .ref ql])), (qb, .inl (cB, 2000, .inl fb))] sz)) 0 0 (va_A [(qt, .inr (1, [.ref qb, .int (nI n), .ref qk, .ref qp, .ref qn, .ref qh, .ref ql])), (qb, .inl (cB, 2000, .inl fb))] sz) := by
  refine Met.ofW (cc := b_Text_behindComment) (maxL := 3) (ret := (some ClassFile.FieldType.int)) (by decide) rfl ?_
  intro p e s m args below meth c s₁ B hml hv
  obtain ⟨rfl, hsz, hP, hK, hD0, hF⟩ := hv
  have hx := B.exec
  have hb := B.bytes
  have hr := B.returns
  have hts := atoms_spec (ws := w_Text_behindComment) B.pre
  have hts : ∀ w ∈ tb, w.before _ s = true := fun w h => hts w (List.mem_cons_of_mem _ h)
  have hown : s.vm.findClass R_Text = some m.cls := findClass_of_methodNamed B.named
  have hlocks := B.notSynchronized
  subst hsz
  have hD := hD0.self (sz := s.heap.size)
  generalize hAe : va_A [(qt, .inr (1, [.ref qb, .int (nI n), .ref qk, .ref qp, .ref qn, .ref qh, .ref ql])), (qb, .inl (cB, 2000, .inl fb))] s.heap.size = A at hD hF ⊢
  have hA : ∀ q : Nat, s.heap.size ≤ q → A q := fun q h => by rw [← hAe]; exact Or.inr h
  have hS : va_S A s.heap s.heap [] := va_S.rf
  have hP : va_P (dC, dI) cl [(qt, .inr (1, [.ref qb, .int (nI n), .ref qk, .ref qp, .ref qn, .ref qh, .ref ql])), (qb, .inl (cB, 2000, .inl fb))] s.heap := hP
  have hl := lv_entry ([.ref qt, .int (nI i)]) (n := 3) (Nat.le_of_ble_eq_true rfl)
  rw [lg_entry_eq]
  generalize (lg_sl ([.ref qt, .int (nI i)]) ++ List.replicate (3 - (lg_sl ([.ref qt, .int (nI i)])).length) Slot.unset).toArray = ls at hl ⊢
  have hl : lv_has ls 3 [(0, .ref qt), (1, .int (nI i))] := hl
  refine lv_iload_n hx hb d_Text_behindComment_0 rfl (lv_at hl 1 rfl) ?_
  refine lv_iconst (v := nI 2) hx hb d_Text_behindComment_1 (by decide) ?_
  refine nv_iadd hx hb d_Text_behindComment_2 ?_
  refine lv_istore_n (lv' := [(2, .int (nI (i + 2))), (0, .ref qt), (1, .int (nI i))]) hx hb d_Text_behindComment_3 rfl hl (by decide) rfl (fun ls hl => ?_)
  refine lp_Text_behindComment (i0 := i) (r := tx_com fb (n - 1 - (i + 2)) (i + 2)) hn hx hb hml hown hts hA hF hK (fun j H locs ls hq hP hD hS hl => ?_) (fun H locs ls hq hP hD hS hl => ?_) (n + 1 - i) (i + 2) _ _ ls (by omega) hi rfl hP hD hS (lv_sub hl [0, 1, 2] rfl)
  · exact wr_i hx hb hr hlocks () (by rw [hq]; rfl) hK hP hD hS d_Text_behindComment_41
  · exact wr_i hx hb hr hlocks () (by rw [hq]; rfl) hK hP hD hS d_Text_behindComment_49
theorem tx_beh_le {b : Nat → Int32} {n i : Nat} (h : i < n) : tx_beh b n i ≤ n := by
  unfold tx_beh
  split
  · omega
  split
  · omega
  rename_i h2
  have h3 : i + 1 < n := by
    have : ¬ n ≤ i + 1 := fun q => h2 (Or.inr q)
    omega
  split
  · have := tx_line_le b (n - (i + 2)) (i + 2); omega
  split
  · cases hq : tx_com b (n - 1 - (i + 2)) (i + 2) with
    | none => show i ≤ n; omega
    | some j =>
      show j ≤ n
      have := tx_com_le b _ _ _ hq
      by_cases h4 : i + 3 < n
      · omega
      · rw [show n - 1 - (i + 2) = 0 by omega] at hq; cases hq
  · omega
theorem d_Text_behindBlank_0 : decode b_Text_behindBlank 0 = .ok (.aload_n 0, 1) := by decide +kernel
theorem d_Text_behindBlank_1 : decode b_Text_behindBlank 1 = .ok (.getfield 9, 3) := by decide +kernel
theorem d_Text_behindBlank_4 : decode b_Text_behindBlank 4 = .ok (.iload_n 1, 1) := by decide +kernel
theorem d_Text_behindBlank_5 : decode b_Text_behindBlank 5 = .ok (.baload, 1) := by decide +kernel
theorem d_Text_behindBlank_6 : decode b_Text_behindBlank 6 = .ok (.istore_n 2, 1) := by decide +kernel
theorem d_Text_behindBlank_7 : decode b_Text_behindBlank 7 = .ok (.iload_n 2, 1) := by decide +kernel
theorem d_Text_behindBlank_8 : decode b_Text_behindBlank 8 = .ok (.bipush 9, 2) := by decide +kernel
theorem d_Text_behindBlank_10 : decode b_Text_behindBlank 10 = .ok (.if_icmp .eq 21, 3) := by decide +kernel
theorem d_Text_behindBlank_13 : decode b_Text_behindBlank 13 = .ok (.iload_n 2, 1) := by decide +kernel
theorem d_Text_behindBlank_14 : decode b_Text_behindBlank 14 = .ok (.bipush 10, 2) := by decide +kernel
theorem d_Text_behindBlank_16 : decode b_Text_behindBlank 16 = .ok (.if_icmp .eq 15, 3) := by decide +kernel
theorem d_Text_behindBlank_19 : decode b_Text_behindBlank 19 = .ok (.iload_n 2, 1) := by decide +kernel
theorem d_Text_behindBlank_20 : decode b_Text_behindBlank 20 = .ok (.bipush 13, 2) := by decide +kernel
theorem d_Text_behindBlank_22 : decode b_Text_behindBlank 22 = .ok (.if_icmp .eq 9, 3) := by decide +kernel
theorem d_Text_behindBlank_25 : decode b_Text_behindBlank 25 = .ok (.iload_n 2, 1) := by decide +kernel
theorem d_Text_behindBlank_26 : decode b_Text_behindBlank 26 = .ok (.bipush 32, 2) := by decide +kernel
theorem d_Text_behindBlank_28 : decode b_Text_behindBlank 28 = .ok (.if_icmp .ne 7, 3) := by decide +kernel
theorem d_Text_behindBlank_31 : decode b_Text_behindBlank 31 = .ok (.iload_n 1, 1) := by decide +kernel
theorem d_Text_behindBlank_32 : decode b_Text_behindBlank 32 = .ok (.iconst 1, 1) := by decide +kernel
theorem d_Text_behindBlank_33 : decode b_Text_behindBlank 33 = .ok (.iadd, 1) := by decide +kernel
theorem d_Text_behindBlank_34 : decode b_Text_behindBlank 34 = .ok (.ireturn, 1) := by decide +kernel
theorem d_Text_behindBlank_35 : decode b_Text_behindBlank 35 = .ok (.iload_n 2, 1) := by decide +kernel
theorem d_Text_behindBlank_36 : decode b_Text_behindBlank 36 = .ok (.bipush 47, 2) := by decide +kernel
theorem d_Text_behindBlank_38 : decode b_Text_behindBlank 38 = .ok (.if_icmp .ne 13, 3) := by decide +kernel
theorem d_Text_behindBlank_41 : decode b_Text_behindBlank 41 = .ok (.iload_n 1, 1) := by decide +kernel
theorem d_Text_behindBlank_42 : decode b_Text_behindBlank 42 = .ok (.iconst 1, 1) := by decide +kernel
theorem d_Text_behindBlank_43 : decode b_Text_behindBlank 43 = .ok (.iadd, 1) := by decide +kernel
theorem d_Text_behindBlank_44 : decode b_Text_behindBlank 44 = .ok (.aload_n 0, 1) := by decide +kernel
theorem d_Text_behindBlank_45 : decode b_Text_behindBlank 45 = .ok (.getfield 13, 3) := by decide +kernel
theorem d_Text_behindBlank_48 : decode b_Text_behindBlank 48 = .ok (.if_icmp .lt 5, 3) := by decide +kernel
theorem d_Text_behindBlank_51 : decode b_Text_behindBlank 51 = .ok (.iload_n 1, 1) := by decide +kernel
theorem d_Text_behindBlank_52 : decode b_Text_behindBlank 52 = .ok (.ireturn, 1) := by decide +kernel
theorem d_Text_behindBlank_53 : decode b_Text_behindBlank 53 = .ok (.aload_n 0, 1) := by decide +kernel
theorem d_Text_behindBlank_54 : decode b_Text_behindBlank 54 = .ok (.getfield 9, 3) := by decide +kernel
theorem d_Text_behindBlank_57 : decode b_Text_behindBlank 57 = .ok (.iload_n 1, 1) := by decide +kernel
theorem d_Text_behindBlank_58 : decode b_Text_behindBlank 58 = .ok (.iconst 1, 1) := by decide +kernel
theorem d_Text_behindBlank_59 : decode b_Text_behindBlank 59 = .ok (.iadd, 1) := by decide +kernel
theorem d_Text_behindBlank_60 : decode b_Text_behindBlank 60 = .ok (.baload, 1) := by decide +kernel
theorem d_Text_behindBlank_61 : decode b_Text_behindBlank 61 = .ok (.bipush 47, 2) := by decide +kernel
theorem d_Text_behindBlank_63 : decode b_Text_behindBlank 63 = .ok (.if_icmp .ne 11, 3) := by decide +kernel
theorem d_Text_behindBlank_66 : decode b_Text_behindBlank 66 = .ok (.aload_n 0, 1) := by decide +kernel
theorem d_Text_behindBlank_67 : decode b_Text_behindBlank 67 = .ok (.iload_n 1, 1) := by decide +kernel
theorem d_Text_behindBlank_68 : decode b_Text_behindBlank 68 = .ok (.iconst 2, 1) := by decide +kernel
theorem d_Text_behindBlank_69 : decode b_Text_behindBlank 69 = .ok (.iadd, 1) := by decide +kernel
theorem d_Text_behindBlank_70 : decode b_Text_behindBlank 70 = .ok (.invokevirtual 45, 3) := by decide +kernel
theorem d_Text_behindBlank_73 : decode b_Text_behindBlank 73 = .ok (.ireturn, 1) := by decide +kernel
theorem d_Text_behindBlank_74 : decode b_Text_behindBlank 74 = .ok (.aload_n 0, 1) := by decide +kernel
theorem d_Text_behindBlank_75 : decode b_Text_behindBlank 75 = .ok (.getfield 9, 3) := by decide +kernel
theorem d_Text_behindBlank_78 : decode b_Text_behindBlank 78 = .ok (.iload_n 1, 1) := by decide +kernel
theorem d_Text_behindBlank_79 : decode b_Text_behindBlank 79 = .ok (.iconst 1, 1) := by decide +kernel
theorem d_Text_behindBlank_80 : decode b_Text_behindBlank 80 = .ok (.iadd, 1) := by decide +kernel
theorem d_Text_behindBlank_81 : decode b_Text_behindBlank 81 = .ok (.baload, 1) := by decide +kernel
theorem d_Text_behindBlank_82 : decode b_Text_behindBlank 82 = .ok (.bipush 42, 2) := by decide +kernel
theorem d_Text_behindBlank_84 : decode b_Text_behindBlank 84 = .ok (.if_icmp .ne 11, 3) := by decide +kernel
theorem d_Text_behindBlank_87 : decode b_Text_behindBlank 87 = .ok (.aload_n 0, 1) := by decide +kernel
theorem d_Text_behindBlank_88 : decode b_Text_behindBlank 88 = .ok (.iload_n 1, 1) := by decide +kernel
theorem d_Text_behindBlank_89 : decode b_Text_behindBlank 89 = .ok (.invokevirtual 48, 3) := by decide +kernel
theorem d_Text_behindBlank_92 : decode b_Text_behindBlank 92 = .ok (.goto 4, 3) := by decide +kernel
theorem d_Text_behindBlank_95 : decode b_Text_behindBlank 95 = .ok (.iload_n 1, 1) := by decide +kernel
theorem d_Text_behindBlank_96 : decode b_Text_behindBlank 96 = .ok (.ireturn, 1) := by decide +kernel
set_option maxHeartbeats 4000000 in
set_option maxRecDepth 100000 in
/-- behindBlank(i) -/
theorem c_Text_behindBlank (l : Launch) (dC : Nat → ClassId) (dI : Nat → Nat → Nat) (cB cI cL cZ cC cO : ClassId) (qt qb qk qp qn qh ql : Nat) (fb : Nat → Int32) (n : Nat) (i : Nat) (sz : Nat) (hn : n ≤ 2000) (hi : i < n) : Met l y_Text_behindBlank w_Text_behindBlank ({ frames := 1, cells := 0, slots := 0, locals := 30 }) (va_Pc [.ref qt, .int (nI i)] (wB (dC, dI) cl [(cB, .byte), (cI, .int), (cL, .long), (cZ, .boolean), (cC, .char), (cO, .object "java/lang/Object")] sz [(qt, .inr (1, [.ref qb, .int (nI n), .ref qk, .ref qp, .ref qn, .ref qh, .ref ql])), (qb, .inl (cB, 2000, .inl fb))])) (va_Qi (fun (r : Int32) (u : Unit) => r = nI (tx_beh fb n i)) (fun _ t => wA (dC, dI) cl [(cB, .byte), (cI, .int), (cL, .long), (cZ, .boolean), (cC, .char), (cO, .object "java/lang/Object")] (va_A [(qt, .inr (1, [.ref qb, .int (nI n), .ref qk, .ref qp, .ref qn, .ref qh, .ref ql])), (qb, .inl (cB, 2000, .inl fb))] sz) [(qt, .inr (1, [.ref qb, .int (nI n), .ref qk, .ref qp, .ref qn, .ref qh, .ref ql])), (qb, .inl (cB, 2000, .inl fb))] t) (va_A [(qt, .inr (1, [.ref qb, .int (nI n), .ref qk, .ref qp, .ref qn, .ref qh, .ref ql])), (qb, .inl (cB, 2000, .inl fb))] sz)) 0 0 (va_A [(qt, .inr (1, [.ref qb, .int (nI n), .ref qk, .ref qp, .ref qn, .ref qh, .ref ql])), (qb, .inl (cB, 2000, .inl fb))] sz) := by
  refine Met.ofW (cc := b_Text_behindBlank) (maxL := 3) (ret := (some ClassFile.FieldType.int)) (by decide) rfl ?_
  intro p e s m args below meth c s₁ B hml hv
  obtain ⟨rfl, hsz, hP, hK, hD0, hF⟩ := hv
  have hx := B.exec
  have hb := B.bytes
  have hr := B.returns
  have hts := atoms_spec (ws := w_Text_behindBlank) B.pre
  have hts : ∀ w ∈ tb, w.before _ s = true := fun w h => hts w (List.mem_cons_of_mem _ h)
  have hown : s.vm.findClass R_Text = some m.cls := findClass_of_methodNamed B.named
  have hlocks := B.notSynchronized
  subst hsz
  have hD := hD0.self (sz := s.heap.size)
  generalize hAe : va_A [(qt, .inr (1, [.ref qb, .int (nI n), .ref qk, .ref qp, .ref qn, .ref qh, .ref ql])), (qb, .inl (cB, 2000, .inl fb))] s.heap.size = A at hD hF ⊢
  have hA : ∀ q : Nat, s.heap.size ≤ q → A q := fun q h => by rw [← hAe]; exact Or.inr h
  have hS : va_S A s.heap s.heap [] := va_S.rf
  have hP : va_P (dC, dI) cl [(qt, .inr (1, [.ref qb, .int (nI n), .ref qk, .ref qp, .ref qn, .ref qh, .ref ql])), (qb, .inl (cB, 2000, .inl fb))] s.heap := hP
  have hl := lv_entry ([.ref qt, .int (nI i)]) (n := 3) (Nat.le_of_ble_eq_true rfl)
  rw [lg_entry_eq]
  generalize (lg_sl ([.ref qt, .int (nI i)]) ++ List.replicate (3 - (lg_sl ([.ref qt, .int (nI i)])).length) Slot.unset).toArray = ls at hl ⊢
  have hl : lv_has ls 3 [(0, .ref qt), (1, .int (nI i))] := hl
  refine lv_aload_n hx hb d_Text_behindBlank_0 rfl (lv_at hl 0 rfl) ?_
  refine va_get (D := (dC, dI)) (ci := 1) (v := .ref qb) (C := R_Text) (T := F_Text) (N := 7) hx hb hts i_Text hown hK hP 0 rfl rfl 0 (by decide) (hts _ k_37) (fun _ h9 => h9) rfl d_Text_behindBlank_1 ?_
  refine lv_iload_n hx hb d_Text_behindBlank_4 rfl (lv_at hl 1 rfl) ?_
  refine nv_bald hx hb hK hP 1 0 rfl rfl (by omega) (by decide) d_Text_behindBlank_5 ?_
  refine lv_istore_n (lv' := [(2, .int (fb i)), (0, .ref qt), (1, .int (nI i))]) hx hb d_Text_behindBlank_6 rfl hl (by decide) rfl (fun ls hl => ?_)
  refine lv_iload_n hx hb d_Text_behindBlank_7 rfl (lv_at hl 0 rfl) ?_
  refine lv_bipush (v := nI 9) hx hb d_Text_behindBlank_8 (by decide) ?_
  refine lv_icmp_eq (tgt := 31) hx hb d_Text_behindBlank_10 (by decide) (fun c_1 => ?_) (fun c_1 => ?_)
  · refine lv_iload_n hx hb d_Text_behindBlank_31 rfl (lv_at hl 2 rfl) ?_
    refine lv_iconst (v := nI 1) hx hb d_Text_behindBlank_32 (by decide) ?_
    refine nv_iadd hx hb d_Text_behindBlank_33 ?_
    exact wr_i hx hb hr hlocks () (congrArg nI (by first | (simp (decide := true) [tx_beh, tx_blank, c_1]; done) | (simp (decide := true) [tx_beh, tx_blank, c_1, show ¬ n ≤ i + 1 by omega]; done) | (simp (decide := true) [tx_beh, tx_blank, c_1]; omega))) hK hP hD hS d_Text_behindBlank_34
  · refine lv_iload_n hx hb d_Text_behindBlank_13 rfl (lv_at hl 0 rfl) ?_
    refine lv_bipush (v := nI 10) hx hb d_Text_behindBlank_14 (by decide) ?_
    refine lv_icmp_eq (tgt := 31) hx hb d_Text_behindBlank_16 (by decide) (fun c_2 => ?_) (fun c_2 => ?_)
    · refine lv_iload_n hx hb d_Text_behindBlank_31 rfl (lv_at hl 2 rfl) ?_
      refine lv_iconst (v := nI 1) hx hb d_Text_behindBlank_32 (by decide) ?_
      refine nv_iadd hx hb d_Text_behindBlank_33 ?_
      exact wr_i hx hb hr hlocks () (congrArg nI (by first | (simp (decide := true) [tx_beh, tx_blank, c_1, c_2]; done) | (simp (decide := true) [tx_beh, tx_blank, c_1, c_2, show ¬ n ≤ i + 1 by omega]; done) | (simp (decide := true) [tx_beh, tx_blank, c_1, c_2]; omega))) hK hP hD hS d_Text_behindBlank_34
    · refine lv_iload_n hx hb d_Text_behindBlank_19 rfl (lv_at hl 0 rfl) ?_
      refine lv_bipush (v := nI 13) hx hb d_Text_behindBlank_20 (by decide) ?_
      refine lv_icmp_eq (tgt := 31) hx hb d_Text_behindBlank_22 (by decide) (fun c_3 => ?_) (fun c_3 => ?_)
      · refine lv_iload_n hx hb d_Text_behindBlank_31 rfl (lv_at hl 2 rfl) ?_
        refine lv_iconst (v := nI 1) hx hb d_Text_behindBlank_32 (by decide) ?_
        refine nv_iadd hx hb d_Text_behindBlank_33 ?_
        exact wr_i hx hb hr hlocks () (congrArg nI (by first | (simp (decide := true) [tx_beh, tx_blank, c_1, c_2, c_3]; done) | (simp (decide := true) [tx_beh, tx_blank, c_1, c_2, c_3, show ¬ n ≤ i + 1 by omega]; done) | (simp (decide := true) [tx_beh, tx_blank, c_1, c_2, c_3]; omega))) hK hP hD hS d_Text_behindBlank_34
      · refine lv_iload_n hx hb d_Text_behindBlank_25 rfl (lv_at hl 0 rfl) ?_
        refine lv_bipush (v := nI 32) hx hb d_Text_behindBlank_26 (by decide) ?_
        refine lv_icmp_ne (tgt := 35) hx hb d_Text_behindBlank_28 (by decide) (fun c_4 => ?_) (fun c_4 => ?_)
        · refine lv_iload_n hx hb d_Text_behindBlank_35 rfl (lv_at hl 0 rfl) ?_
          refine lv_bipush (v := nI 47) hx hb d_Text_behindBlank_36 (by decide) ?_
          refine lv_icmp_ne (tgt := 51) hx hb d_Text_behindBlank_38 (by decide) (fun c_5 => ?_) (fun c_5 => ?_)
          · refine lv_iload_n hx hb d_Text_behindBlank_51 rfl (lv_at hl 2 rfl) ?_
            exact wr_i hx hb hr hlocks () (congrArg nI (by first | (simp (decide := true) [tx_beh, tx_blank, c_1, c_2, c_3, c_4, c_5]; done) | (simp (decide := true) [tx_beh, tx_blank, c_1, c_2, c_3, c_4, c_5, show ¬ n ≤ i + 1 by omega]; done) | (simp (decide := true) [tx_beh, tx_blank, c_1, c_2, c_3, c_4, c_5]; omega))) hK hP hD hS d_Text_behindBlank_52
          · refine lv_iload_n hx hb d_Text_behindBlank_41 rfl (lv_at hl 2 rfl) ?_
            refine lv_iconst (v := nI 1) hx hb d_Text_behindBlank_42 (by decide) ?_
            refine nv_iadd hx hb d_Text_behindBlank_43 ?_
            refine lv_aload_n hx hb d_Text_behindBlank_44 rfl (lv_at hl 1 rfl) ?_
            refine va_get (D := (dC, dI)) (ci := 1) (v := .int (nI n)) (C := R_Text) (T := F_Text) (N := 7) hx hb hts i_Text hown hK hP 0 rfl rfl 1 (by decide) (hts _ k_38) (fun _ h9 => h9) rfl d_Text_behindBlank_45 ?_
            refine nv_icmp_lt (tgt := 53) hx hb (by omega) (by omega) d_Text_behindBlank_48 (by decide) (fun c_6 => ?_) (fun c_6 => ?_)
            · refine lv_aload_n hx hb d_Text_behindBlank_53 rfl (lv_at hl 1 rfl) ?_
              refine va_get (D := (dC, dI)) (ci := 1) (v := .ref qb) (C := R_Text) (T := F_Text) (N := 7) hx hb hts i_Text hown hK hP 0 rfl rfl 0 (by decide) (hts _ k_37) (fun _ h9 => h9) rfl d_Text_behindBlank_54 ?_
              refine lv_iload_n hx hb d_Text_behindBlank_57 rfl (lv_at hl 2 rfl) ?_
              refine lv_iconst (v := nI 1) hx hb d_Text_behindBlank_58 (by decide) ?_
              refine nv_iadd hx hb d_Text_behindBlank_59 ?_
              refine nv_bald hx hb hK hP 1 0 rfl rfl (by omega) (by decide) d_Text_behindBlank_60 ?_
              refine lv_bipush (v := nI 47) hx hb d_Text_behindBlank_61 (by decide) ?_
              refine lv_icmp_ne (tgt := 74) hx hb d_Text_behindBlank_63 (by decide) (fun c_7 => ?_) (fun c_7 => ?_)
              · refine lv_aload_n hx hb d_Text_behindBlank_74 rfl (lv_at hl 1 rfl) ?_
                refine va_get (D := (dC, dI)) (ci := 1) (v := .ref qb) (C := R_Text) (T := F_Text) (N := 7) hx hb hts i_Text hown hK hP 0 rfl rfl 0 (by decide) (hts _ k_37) (fun _ h9 => h9) rfl d_Text_behindBlank_75 ?_
                refine lv_iload_n hx hb d_Text_behindBlank_78 rfl (lv_at hl 2 rfl) ?_
                refine lv_iconst (v := nI 1) hx hb d_Text_behindBlank_79 (by decide) ?_
                refine nv_iadd hx hb d_Text_behindBlank_80 ?_
                refine nv_bald hx hb hK hP 1 0 rfl rfl (by omega) (by decide) d_Text_behindBlank_81 ?_
                refine lv_bipush (v := nI 42) hx hb d_Text_behindBlank_82 (by decide) ?_
                refine lv_icmp_ne (tgt := 95) hx hb d_Text_behindBlank_84 (by decide) (fun c_8 => ?_) (fun c_8 => ?_)
                · refine lv_iload_n hx hb d_Text_behindBlank_95 rfl (lv_at hl 2 rfl) ?_
                  exact wr_i hx hb hr hlocks () (congrArg nI (by first | (simp (decide := true) [tx_beh, tx_blank, c_1, c_2, c_3, c_4, c_5, c_6, c_7, c_8]; done) | (simp (decide := true) [tx_beh, tx_blank, c_1, c_2, c_3, c_4, c_5, c_6, c_7, c_8, show ¬ n ≤ i + 1 by omega]; done) | (simp (decide := true) [tx_beh, tx_blank, c_1, c_2, c_3, c_4, c_5, c_6, c_7, c_8]; omega))) hK hP hD hS d_Text_behindBlank_96
                · refine lv_aload_n hx hb d_Text_behindBlank_87 rfl (lv_at hl 1 rfl) ?_
                  refine lv_iload_n hx hb d_Text_behindBlank_88 rfl (lv_at hl 2 rfl) ?_
                  refine wc_i (wc := [(qt, .inr (1, [.ref qb, .int (nI n), .ref qk, .ref qp, .ref qn, .ref qh, .ref ql])), (qb, .inl (cB, 2000, .inl fb))]) (wr := []) (va_runV (As := [.int (nI i)]) (rest := []) ⟨hx, hb, hml, hown, hts⟩ (c_Text_behindComment l dC dI cB cI cL cZ cC cO qt qb qk qp qn qh ql fb n i _ hn (by omega)) (cwV 1 hts (good_V k_484 k_486 s_Text_behindComment k_2 k_487) rfl rfl rfl (by decide +kernel) ⟨Nat.le_of_ble_eq_true rfl, Nat.le_of_ble_eq_true rfl⟩) (wc_preV (k0 := 0) (ci := 1) (r := (R_Text, F_Text, 7)) hK hP hD hS hA hF [0, 1] (by decide) rfl rfl rfl) rfl rfl hl.1 rfl (lv_room (Nat.le_of_ble_eq_true rfl)) d_Text_behindBlank_89 ⟨Nat.le_of_ble_eq_true rfl, Nat.le_of_ble_eq_true rfl⟩) hP hD hS hA [0, 1] [] rfl rfl (by decide) (by decide) (fun r_10 u H locs w_9 hP hD hS => ?_)
                  have hP : va_P (dC, dI) cl [(qt, .inr (1, [.ref qb, .int (nI n), .ref qk, .ref qp, .ref qn, .ref qh, .ref ql])), (qb, .inl (cB, 2000, .inl fb))] H := hP
                  have hD : va_D A [(qt, .inr (1, [.ref qb, .int (nI n), .ref qk, .ref qp, .ref qn, .ref qh, .ref ql])), (qb, .inl (cB, 2000, .inl fb))] := hD
                  subst w_9
                  refine lv_goto (tgt := 96) hx hb d_Text_behindBlank_92 (by decide) ?_
                  exact wr_i hx hb hr hlocks () (congrArg nI (by first | (simp (decide := true) [tx_beh, tx_blank, c_1, c_2, c_3, c_4, c_5, c_6, c_7, c_8]; done) | (simp (decide := true) [tx_beh, tx_blank, c_1, c_2, c_3, c_4, c_5, c_6, c_7, c_8, show ¬ n ≤ i + 1 by omega]; done) | (simp (decide := true) [tx_beh, tx_blank, c_1, c_2, c_3, c_4, c_5, c_6, c_7, c_8]; omega))) hK hP hD hS d_Text_behindBlank_96
              · refine lv_aload_n hx hb d_Text_behindBlank_66 rfl (lv_at hl 1 rfl) ?_
                refine lv_iload_n hx hb d_Text_behindBlank_67 rfl (lv_at hl 2 rfl) ?_
                refine lv_iconst (v := nI 2) hx hb d_Text_behindBlank_68 (by decide) ?_
                refine nv_iadd hx hb d_Text_behindBlank_69 ?_
                refine wc_i (wc := [(qt, .inr (1, [.ref qb, .int (nI n), .ref qk, .ref qp, .ref qn, .ref qh, .ref ql])), (qb, .inl (cB, 2000, .inl fb))]) (wr := []) (va_runV (As := [.int (nI (i + 2))]) (rest := []) ⟨hx, hb, hml, hown, hts⟩ (c_Text_lineEnd l dC dI cB cI cL cZ cC cO qt qb qk qp qn qh ql fb n (i + 2) _ hn (by omega)) (cwV 1 hts (good_V k_480 k_482 s_Text_lineEnd k_2 k_483) rfl rfl rfl (by decide +kernel) ⟨Nat.le_of_ble_eq_true rfl, Nat.le_of_ble_eq_true rfl⟩) (wc_preV (k0 := 0) (ci := 1) (r := (R_Text, F_Text, 7)) hK hP hD hS hA hF [0, 1] (by decide) rfl rfl rfl) rfl rfl hl.1 rfl (lv_room (Nat.le_of_ble_eq_true rfl)) d_Text_behindBlank_70 ⟨Nat.le_of_ble_eq_true rfl, Nat.le_of_ble_eq_true rfl⟩) hP hD hS hA [0, 1] [] rfl rfl (by decide) (by decide) (fun r_12 u H locs w_11 hP hD hS => ?_)
                have hP : va_P (dC, dI) cl [(qt, .inr (1, [.ref qb, .int (nI n), .ref qk, .ref qp, .ref qn, .ref qh, .ref ql])), (qb, .inl (cB, 2000, .inl fb))] H := hP
                have hD : va_D A [(qt, .inr (1, [.ref qb, .int (nI n), .ref qk, .ref qp, .ref qn, .ref qh, .ref ql])), (qb, .inl (cB, 2000, .inl fb))] := hD
                subst w_11
                exact wr_i hx hb hr hlocks () (congrArg nI (by first | (simp (decide := true) [tx_beh, tx_blank, c_1, c_2, c_3, c_4, c_5, c_6, c_7]; done) | (simp (decide := true) [tx_beh, tx_blank, c_1, c_2, c_3, c_4, c_5, c_6, c_7, show ¬ n ≤ i + 1 by omega]; done) | (simp (decide := true) [tx_beh, tx_blank, c_1, c_2, c_3, c_4, c_5, c_6, c_7]; omega))) hK hP hD hS d_Text_behindBlank_73
            · refine lv_iload_n hx hb d_Text_behindBlank_51 rfl (lv_at hl 2 rfl) ?_
              exact wr_i hx hb hr hlocks () (congrArg nI (by first | (simp (decide := true) [tx_beh, tx_blank, c_1, c_2, c_3, c_4, c_5, c_6]; done) | (simp (decide := true) [tx_beh, tx_blank, c_1, c_2, c_3, c_4, c_5, c_6, show ¬ n ≤ i + 1 by omega]; done) | (simp (decide := true) [tx_beh, tx_blank, c_1, c_2, c_3, c_4, c_5, c_6]; omega))) hK hP hD hS d_Text_behindBlank_52
        · refine lv_iload_n hx hb d_Text_behindBlank_31 rfl (lv_at hl 2 rfl) ?_
          refine lv_iconst (v := nI 1) hx hb d_Text_behindBlank_32 (by decide) ?_
          refine nv_iadd hx hb d_Text_behindBlank_33 ?_
          exact wr_i hx hb hr hlocks () (congrArg nI (by first | (simp (decide := true) [tx_beh, tx_blank, c_1, c_2, c_3, c_4]; done) | (simp (decide := true) [tx_beh, tx_blank, c_1, c_2, c_3, c_4, show ¬ n ≤ i + 1 by omega]; done) | (simp (decide := true) [tx_beh, tx_blank, c_1, c_2, c_3, c_4]; omega))) hK hP hD hS d_Text_behindBlank_34
theorem tx_skip_u (b : Nat → Int32) (n k i : Nat) : tx_skip b n (n - k) i = if k < n ∧ i < n then (if tx_beh b n i = i then i else tx_skip b n (n - (k + 1)) (tx_beh b n i)) else i := by
  by_cases h : k < n
  · rw [show n - k = (n - (k + 1)) + 1 by omega]
    show (if i < n then (if tx_beh b n i = i then i else tx_skip b n (n - (k + 1)) (tx_beh b n i)) else i) = _
    by_cases h2 : i < n
    · rw [if_pos h2, if_pos (show k < n ∧ i < n from ⟨h, h2⟩)]
    · rw [if_neg h2, if_neg (fun q => h2 q.2)]
  · rw [if_neg (fun q => h q.1), show n - k = 0 by omega]; rfl
theorem d_Text_skipBlanks_0 : decode b_Text_skipBlanks 0 = .ok (.iload_n 1, 1) := by decide +kernel
theorem d_Text_skipBlanks_1 : decode b_Text_skipBlanks 1 = .ok (.istore_n 2, 1) := by decide +kernel
theorem d_Text_skipBlanks_2 : decode b_Text_skipBlanks 2 = .ok (.iconst 0, 1) := by decide +kernel
theorem d_Text_skipBlanks_3 : decode b_Text_skipBlanks 3 = .ok (.istore_n 3, 1) := by decide +kernel
theorem d_Text_skipBlanks_4 : decode b_Text_skipBlanks 4 = .ok (.iload_n 3, 1) := by decide +kernel
theorem d_Text_skipBlanks_5 : decode b_Text_skipBlanks 5 = .ok (.aload_n 0, 1) := by decide +kernel
theorem d_Text_skipBlanks_6 : decode b_Text_skipBlanks 6 = .ok (.getfield 13, 3) := by decide +kernel
theorem d_Text_skipBlanks_9 : decode b_Text_skipBlanks 9 = .ok (.if_icmp .ge 35, 3) := by decide +kernel
theorem d_Text_skipBlanks_12 : decode b_Text_skipBlanks 12 = .ok (.iload_n 2, 1) := by decide +kernel
theorem d_Text_skipBlanks_13 : decode b_Text_skipBlanks 13 = .ok (.aload_n 0, 1) := by decide +kernel
theorem d_Text_skipBlanks_14 : decode b_Text_skipBlanks 14 = .ok (.getfield 13, 3) := by decide +kernel
theorem d_Text_skipBlanks_17 : decode b_Text_skipBlanks 17 = .ok (.if_icmp .ge 27, 3) := by decide +kernel
theorem d_Text_skipBlanks_20 : decode b_Text_skipBlanks 20 = .ok (.aload_n 0, 1) := by decide +kernel
theorem d_Text_skipBlanks_21 : decode b_Text_skipBlanks 21 = .ok (.iload_n 2, 1) := by decide +kernel
theorem d_Text_skipBlanks_22 : decode b_Text_skipBlanks 22 = .ok (.invokevirtual 42, 3) := by decide +kernel
theorem d_Text_skipBlanks_25 : decode b_Text_skipBlanks 25 = .ok (.istore 4, 2) := by decide +kernel
theorem d_Text_skipBlanks_27 : decode b_Text_skipBlanks 27 = .ok (.iload 4, 2) := by decide +kernel
theorem d_Text_skipBlanks_29 : decode b_Text_skipBlanks 29 = .ok (.iload_n 2, 1) := by decide +kernel
theorem d_Text_skipBlanks_30 : decode b_Text_skipBlanks 30 = .ok (.if_icmp .ne 5, 3) := by decide +kernel
theorem d_Text_skipBlanks_33 : decode b_Text_skipBlanks 33 = .ok (.iload_n 2, 1) := by decide +kernel
theorem d_Text_skipBlanks_34 : decode b_Text_skipBlanks 34 = .ok (.ireturn, 1) := by decide +kernel
theorem d_Text_skipBlanks_35 : decode b_Text_skipBlanks 35 = .ok (.iload 4, 2) := by decide +kernel
theorem d_Text_skipBlanks_37 : decode b_Text_skipBlanks 37 = .ok (.istore_n 2, 1) := by decide +kernel
theorem d_Text_skipBlanks_38 : decode b_Text_skipBlanks 38 = .ok (.iinc 3 1, 3) := by decide +kernel
theorem d_Text_skipBlanks_41 : decode b_Text_skipBlanks 41 = .ok (.goto (-37), 3) := by decide +kernel
theorem d_Text_skipBlanks_44 : decode b_Text_skipBlanks 44 = .ok (.iload_n 2, 1) := by decide +kernel
theorem d_Text_skipBlanks_45 : decode b_Text_skipBlanks 45 = .ok (.ireturn, 1) := by decide +kernel
set_option maxHeartbeats 4000000 in
set_option maxRecDepth 100000 in
theorem lp_Text_skipBlanks {p : Program} {l : Launch} {e : Env} {s : State} {m : MethodId} {args : Array Value} {below : List Frame} {meth : Method} {c : Code} {Q : State → Prop} {A : Nat → Prop} {dC : Nat → ClassId} {dI : Nat → Nat → Nat} {cB cI cL cZ cC cO : ClassId} {qt qb qk qp qn qh ql : Nat} {fb : Nat → Int32} {n : Nat} {i0 r : Nat} (hn : n ≤ 2000) (hx : p.tables.exec = Jvm.exec) (hb : c.code = b_Text_skipBlanks) (hml : c.maxLocals = 5) (hown : s.vm.findClass R_Text = some m.cls) (hts : ∀ w ∈ tb, w.before args s = true) (hA : ∀ q, s.heap.size ≤ q → A q) (hF : stF A s) (hK : va_K (dC, dI) cl [(cB, .byte), (cI, .int), (cL, .long), (cZ, .boolean), (cC, .char), (cO, .object "java/lang/Object")] s)
    (kx : ∀  (H : Heap) (locs : List Loc) (ls : Array Slot), va_P (dC, dI) cl [(qt, .inr (1, [.ref qb, .int (nI n), .ref qk, .ref qp, .ref qn, .ref qh, .ref ql])), (qb, .inl (cB, 2000, .inl fb))] H → va_D A [(qt, .inr (1, [.ref qb, .int (nI n), .ref qk, .ref qp, .ref qn, .ref qh, .ref ql])), (qb, .inl (cB, 2000, .inl fb))] → va_S A s.heap H locs → lv_has ls 5 [(0, .ref qt), (1, .int (nI i0))] → W p l e (headSpec w_Text_skipBlanks { frames := 2, cells := 0, slots := 0, locals := 60 }).room s m args below meth c H locs 0 0 Q (F0 m 34 ls [.int (nI r)])) (ky : ∀  (H : Heap) (locs : List Loc) (ls : Array Slot), va_P (dC, dI) cl [(qt, .inr (1, [.ref qb, .int (nI n), .ref qk, .ref qp, .ref qn, .ref qh, .ref ql])), (qb, .inl (cB, 2000, .inl fb))] H → va_D A [(qt, .inr (1, [.ref qb, .int (nI n), .ref qk, .ref qp, .ref qn, .ref qh, .ref ql])), (qb, .inl (cB, 2000, .inl fb))] → va_S A s.heap H locs → lv_has ls 5 [(0, .ref qt), (1, .int (nI i0))] → W p l e (headSpec w_Text_skipBlanks { frames := 2, cells := 0, slots := 0, locals := 60 }).room s m args below meth c H locs 0 0 Q (F0 m 45 ls [.int (nI r)])) :
    ∀ (k : Nat) (j i : Nat) (H : Heap) (locs : List Loc) (ls : Array Slot), n < j + k → j ≤ n → i ≤ n → tx_skip fb n (n - j) i = r → va_P (dC, dI) cl [(qt, .inr (1, [.ref qb, .int (nI n), .ref qk, .ref qp, .ref qn, .ref qh, .ref ql])), (qb, .inl (cB, 2000, .inl fb))] H → va_D A [(qt, .inr (1, [.ref qb, .int (nI n), .ref qk, .ref qp, .ref qn, .ref qh, .ref ql])), (qb, .inl (cB, 2000, .inl fb))] → va_S A s.heap H locs → lv_has ls 5 [(3, .int (nI j)), (2, .int (nI i)), (0, .ref qt), (1, .int (nI i0))] → W p l e (headSpec w_Text_skipBlanks { frames := 2, cells := 0, slots := 0, locals := 60 }).room s m args below meth c H locs 0 0 Q (F0 m 4 ls []) := by
  intro k
  induction k with
  | zero =>
    intro j i H locs ls hk hj hi hr hP hD hS hl
    exfalso; omega
  | succ k ih =>
    intro j i H locs ls hk hj hi hr hP hD hS hl
    refine lv_iload_n hx hb d_Text_skipBlanks_4 rfl (lv_at hl 0 rfl) ?_
    refine lv_aload_n hx hb d_Text_skipBlanks_5 rfl (lv_at hl 2 rfl) ?_
    refine va_get (D := (dC, dI)) (ci := 1) (v := .int (nI n)) (C := R_Text) (T := F_Text) (N := 7) hx hb hts i_Text hown hK hP 0 rfl rfl 1 (by decide) (hts _ k_38) (fun _ h9 => h9) rfl d_Text_skipBlanks_6 ?_
    refine nv_icmp_ge (tgt := 44) hx hb (by omega) (by omega) d_Text_skipBlanks_9 (by decide) (fun c_1 => ?_) (fun c_1 => ?_)
    · refine lv_iload_n hx hb d_Text_skipBlanks_44 rfl (lv_at hl 1 rfl) ?_
      have hri : r = i := by rw [← hr, tx_skip_u, if_neg (by omega)]
      subst hri
      exact ky H locs ls hP hD hS (lv_sub hl [2, 3] rfl)
    · refine lv_iload_n hx hb d_Text_skipBlanks_12 rfl (lv_at hl 1 rfl) ?_
      refine lv_aload_n hx hb d_Text_skipBlanks_13 rfl (lv_at hl 2 rfl) ?_
      refine va_get (D := (dC, dI)) (ci := 1) (v := .int (nI n)) (C := R_Text) (T := F_Text) (N := 7) hx hb hts i_Text hown hK hP 0 rfl rfl 1 (by decide) (hts _ k_38) (fun _ h9 => h9) rfl d_Text_skipBlanks_14 ?_
      refine nv_icmp_ge (tgt := 44) hx hb (by omega) (by omega) d_Text_skipBlanks_17 (by decide) (fun c_2 => ?_) (fun c_2 => ?_)
      · refine lv_iload_n hx hb d_Text_skipBlanks_44 rfl (lv_at hl 1 rfl) ?_
        have hri : r = i := by rw [← hr, tx_skip_u, if_neg (by omega)]
        subst hri
        exact ky H locs ls hP hD hS (lv_sub hl [2, 3] rfl)
      · refine lv_aload_n hx hb d_Text_skipBlanks_20 rfl (lv_at hl 2 rfl) ?_
        refine lv_iload_n hx hb d_Text_skipBlanks_21 rfl (lv_at hl 1 rfl) ?_
        refine wc_i (wc := [(qt, .inr (1, [.ref qb, .int (nI n), .ref qk, .ref qp, .ref qn, .ref qh, .ref ql])), (qb, .inl (cB, 2000, .inl fb))]) (wr := []) (va_runV (As := [.int (nI i)]) (rest := []) ⟨hx, hb, hml, hown, hts⟩ (c_Text_behindBlank l dC dI cB cI cL cZ cC cO qt qb qk qp qn qh ql fb n i _ hn (by omega)) (cwV 1 hts (good_V k_476 k_478 s_Text_behindBlank k_2 k_479) rfl rfl rfl (by decide +kernel) ⟨Nat.le_of_ble_eq_true rfl, Nat.le_of_ble_eq_true rfl⟩) (wc_preV (k0 := 0) (ci := 1) (r := (R_Text, F_Text, 7)) hK hP hD hS hA hF [0, 1] (by decide) rfl rfl rfl) rfl rfl hl.1 rfl (lv_room (Nat.le_of_ble_eq_true rfl)) d_Text_skipBlanks_22 ⟨Nat.le_of_ble_eq_true rfl, Nat.le_of_ble_eq_true rfl⟩) hP hD hS hA [0, 1] [] rfl rfl (by decide) (by decide) (fun r_4 u H locs w_3 hP hD hS => ?_)
        have hP : va_P (dC, dI) cl [(qt, .inr (1, [.ref qb, .int (nI n), .ref qk, .ref qp, .ref qn, .ref qh, .ref ql])), (qb, .inl (cB, 2000, .inl fb))] H := hP
        have hD : va_D A [(qt, .inr (1, [.ref qb, .int (nI n), .ref qk, .ref qp, .ref qn, .ref qh, .ref ql])), (qb, .inl (cB, 2000, .inl fb))] := hD
        subst w_3
        refine lv_istore (lv' := [(4, .int (nI (tx_beh fb n i))), (3, .int (nI j)), (2, .int (nI i)), (0, .ref qt), (1, .int (nI i0))]) hx hb d_Text_skipBlanks_25 hl (by decide) rfl (fun ls hl => ?_)
        have hle := tx_beh_le (b := fb) (n := n) (i := i) (by omega)
        refine lv_iload hx hb d_Text_skipBlanks_27 (lv_at hl 0 rfl) ?_
        refine lv_iload_n hx hb d_Text_skipBlanks_29 rfl (lv_at hl 2 rfl) ?_
        refine nv_icmp_ne (tgt := 35) hx hb (by omega) (by omega) d_Text_skipBlanks_30 (by decide) (fun c_5 => ?_) (fun c_5 => ?_)
        · refine lv_iload hx hb d_Text_skipBlanks_35 (lv_at hl 0 rfl) ?_
          refine lv_istore_n (lv' := [(2, .int (nI (tx_beh fb n i))), (4, .int (nI (tx_beh fb n i))), (3, .int (nI j)), (0, .ref qt), (1, .int (nI i0))]) hx hb d_Text_skipBlanks_37 rfl hl (by decide) rfl (fun ls hl => ?_)
          refine lv_iinc (v := nI (j + 1)) (lv' := [(3, .int (nI (j + 1))), (2, .int (nI (tx_beh fb n i))), (4, .int (nI (tx_beh fb n i))), (0, .ref qt), (1, .int (nI i0))]) hx hb d_Text_skipBlanks_38 hl (k := 2) rfl (nI_1 _) (by decide) rfl (fun ls hl => ?_)
          refine lv_goto (tgt := 4) hx hb d_Text_skipBlanks_41 (by decide) ?_
          exact ih (j + 1) (tx_beh fb n i) H locs ls (by omega) (by omega) (tx_beh_le (by omega)) (by rw [← hr, tx_skip_u fb n j i, if_pos ⟨by omega, by omega⟩, if_neg c_5]) hP hD hS (lv_sub hl [0, 1, 3, 4] rfl)
        · refine lv_iload_n hx hb d_Text_skipBlanks_33 rfl (lv_at hl 2 rfl) ?_
          have hri : r = i := by rw [← hr, tx_skip_u, if_pos ⟨by omega, by omega⟩, if_pos c_5]
          subst hri
          exact kx H locs ls hP hD hS (lv_sub hl [3, 4] rfl)
set_option maxHeartbeats 4000000 in
set_option maxRecDepth 100000 in
/-- skipBlanks(i) -/
theorem c_Text_skipBlanks (l : Launch) (dC : Nat → ClassId) (dI : Nat → Nat → Nat) (cB cI cL cZ cC cO : ClassId) (qt qb qk qp qn qh ql : Nat) (fb : Nat → Int32) (n : Nat) (i : Nat) (sz : Nat) (hn : n ≤ 2000) (hi : i ≤ n) : Met l y_Text_skipBlanks w_Text_skipBlanks ({ frames := 2, cells := 0, slots := 0, locals := 60 }) (va_Pc [.ref qt, .int (nI i)] (wB (dC, dI) cl [(cB, .byte), (cI, .int), (cL, .long), (cZ, .boolean), (cC, .char), (cO, .object "java/lang/Object")] sz [(qt, .inr (1, [.ref qb, .int (nI n), .ref qk, .ref qp, .ref qn, .ref qh, .ref ql])), (qb, .inl (cB, 2000, .inl fb))])) (va_Qi (fun (r : Int32) (u : Unit) => r = nI (tx_skip fb n n i)) (fun _ t => wA (dC, dI) cl [(cB, .byte), (cI, .int), (cL, .long), (cZ, .boolean), (cC, .char), (cO, .object "java/lang/Object")] (va_A [(qt, .inr (1, [.ref qb, .int (nI n), .ref qk, .ref qp, .ref qn, .ref qh, .ref ql])), (qb, .inl (cB, 2000, .inl fb))] sz) [(qt, .inr (1, [.ref qb, .int (nI n), .ref qk, .ref qp, .ref qn, .ref qh, .ref ql])), (qb, .inl (cB, 2000, .inl fb))] t) (va_A [(qt, .inr (1, [.ref qb, .int (nI n), .ref qk, .ref qp, .ref qn, .ref qh, .ref ql])), (qb, .inl (cB, 2000, .inl fb))] sz)) 0 0 (va_A [(qt, .inr (1, [.ref qb, .int (nI n), .ref qk, .ref qp, .ref qn, .ref qh, .ref ql])), (qb, .inl (cB, 2000, .inl fb))] sz) := by
  refine Met.ofW (cc := b_Text_skipBlanks) (maxL := 5) (ret := (some ClassFile.FieldType.int)) (by decide) rfl ?_
  intro p e s m args below meth c s₁ B hml hv
  obtain ⟨rfl, hsz, hP, hK, hD0, hF⟩ := hv
  have hx := B.exec
  have hb := B.bytes
  have hr := B.returns
  have hts := atoms_spec (ws := w_Text_skipBlanks) B.pre
  have hts : ∀ w ∈ tb, w.before _ s = true := fun w h => hts w (List.mem_cons_of_mem _ h)
  have hown : s.vm.findClass R_Text = some m.cls := findClass_of_methodNamed B.named
  have hlocks := B.notSynchronized
  subst hsz
  have hD := hD0.self (sz := s.heap.size)
  generalize hAe : va_A [(qt, .inr (1, [.ref qb, .int (nI n), .ref qk, .ref qp, .ref qn, .ref qh, .ref ql])), (qb, .inl (cB, 2000, .inl fb))] s.heap.size = A at hD hF ⊢
  have hA : ∀ q : Nat, s.heap.size ≤ q → A q := fun q h => by rw [← hAe]; exact Or.inr h
  have hS : va_S A s.heap s.heap [] := va_S.rf
  have hP : va_P (dC, dI) cl [(qt, .inr (1, [.ref qb, .int (nI n), .ref qk, .ref qp, .ref qn, .ref qh, .ref ql])), (qb, .inl (cB, 2000, .inl fb))] s.heap := hP
  have hl := lv_entry ([.ref qt, .int (nI i)]) (n := 5) (Nat.le_of_ble_eq_true rfl)
  rw [lg_entry_eq]
  generalize (lg_sl ([.ref qt, .int (nI i)]) ++ List.replicate (5 - (lg_sl ([.ref qt, .int (nI i)])).length) Slot.unset).toArray = ls at hl ⊢
  have hl : lv_has ls 5 [(0, .ref qt), (1, .int (nI i))] := hl
  refine lv_iload_n hx hb d_Text_skipBlanks_0 rfl (lv_at hl 1 rfl) ?_
  refine lv_istore_n (lv' := [(2, .int (nI i)), (0, .ref qt), (1, .int (nI i))]) hx hb d_Text_skipBlanks_1 rfl hl (by decide) rfl (fun ls hl => ?_)
  refine lv_iconst (v := nI 0) hx hb d_Text_skipBlanks_2 (by decide) ?_
  refine lv_istore_n (lv' := [(3, .int (nI 0)), (2, .int (nI i)), (0, .ref qt), (1, .int (nI i))]) hx hb d_Text_skipBlanks_3 rfl hl (by decide) rfl (fun ls hl => ?_)
  refine lp_Text_skipBlanks (i0 := i) (r := tx_skip fb n n i) hn hx hb hml hown hts hA hF hK (fun H locs ls hP hD hS hl => ?_) (fun H locs ls hP hD hS hl => ?_) (n + 1) 0 i _ _ ls (by omega) (by omega) hi rfl hP hD hS (lv_sub hl [0, 1, 2, 3] rfl)
  · exact wr_i hx hb hr hlocks () rfl hK hP hD hS d_Text_skipBlanks_34
  · exact wr_i hx hb hr hlocks () rfl hK hP hD hS d_Text_skipBlanks_45
