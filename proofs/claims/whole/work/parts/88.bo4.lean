def clm : Nat → Nat → (Nat → Nat ⊕ Nat) → (Nat → Nat ⊕ Nat)
  | 0, _, f => f
  | k + 1, i, f => clm k (i + 1) (va_up f i (.inr 0))
theorem clm_u (n i : Nat) (f : Nat → Nat ⊕ Nat) : clm (n - i) i f = if i < n then clm (n - (i + 1)) (i + 1) (va_up f i (.inr 0)) else f := by
  by_cases h : i < n
  · rw [if_pos h, show n - i = (n - (i + 1)) + 1 by omega]; rfl
  · rw [if_neg h, show n - i = 0 by omega]; rfl
theorem d_Board_claimBits_0 : decode b_Board_claimBits 0 = .ok (.aload_n 1, 1) := by decide +kernel
theorem d_Board_claimBits_1 : decode b_Board_claimBits 1 = .ok (.getfield 99, 3) := by decide +kernel
theorem d_Board_claimBits_4 : decode b_Board_claimBits 4 = .ok (.sipush 8000, 3) := by decide +kernel
theorem d_Board_claimBits_7 : decode b_Board_claimBits 7 = .ok (.aload_n 0, 1) := by decide +kernel
theorem d_Board_claimBits_8 : decode b_Board_claimBits 8 = .ok (.getfield 25, 3) := by decide +kernel
theorem d_Board_claimBits_11 : decode b_Board_claimBits 11 = .ok (.isub, 1) := by decide +kernel
theorem d_Board_claimBits_12 : decode b_Board_claimBits 12 = .ok (.if_icmp .le 5, 3) := by decide +kernel
theorem d_Board_claimBits_15 : decode b_Board_claimBits 15 = .ok (.iconst (-1), 1) := by decide +kernel
theorem d_Board_claimBits_16 : decode b_Board_claimBits 16 = .ok (.ireturn, 1) := by decide +kernel
theorem d_Board_claimBits_17 : decode b_Board_claimBits 17 = .ok (.aload_n 0, 1) := by decide +kernel
theorem d_Board_claimBits_18 : decode b_Board_claimBits 18 = .ok (.getfield 25, 3) := by decide +kernel
theorem d_Board_claimBits_21 : decode b_Board_claimBits 21 = .ok (.istore_n 2, 1) := by decide +kernel
theorem d_Board_claimBits_22 : decode b_Board_claimBits 22 = .ok (.aload_n 0, 1) := by decide +kernel
theorem d_Board_claimBits_23 : decode b_Board_claimBits 23 = .ok (.dup, 1) := by decide +kernel
theorem d_Board_claimBits_24 : decode b_Board_claimBits 24 = .ok (.getfield 25, 3) := by decide +kernel
theorem d_Board_claimBits_27 : decode b_Board_claimBits 27 = .ok (.aload_n 1, 1) := by decide +kernel
theorem d_Board_claimBits_28 : decode b_Board_claimBits 28 = .ok (.getfield 99, 3) := by decide +kernel
theorem d_Board_claimBits_31 : decode b_Board_claimBits 31 = .ok (.iadd, 1) := by decide +kernel
theorem d_Board_claimBits_32 : decode b_Board_claimBits 32 = .ok (.putfield 25, 3) := by decide +kernel
theorem d_Board_claimBits_35 : decode b_Board_claimBits 35 = .ok (.iload_n 2, 1) := by decide +kernel
theorem d_Board_claimBits_36 : decode b_Board_claimBits 36 = .ok (.istore_n 3, 1) := by decide +kernel
theorem d_Board_claimBits_37 : decode b_Board_claimBits 37 = .ok (.iload_n 3, 1) := by decide +kernel
theorem d_Board_claimBits_38 : decode b_Board_claimBits 38 = .ok (.aload_n 0, 1) := by decide +kernel
theorem d_Board_claimBits_39 : decode b_Board_claimBits 39 = .ok (.getfield 25, 3) := by decide +kernel
theorem d_Board_claimBits_42 : decode b_Board_claimBits 42 = .ok (.if_icmp .ge 16, 3) := by decide +kernel
theorem d_Board_claimBits_45 : decode b_Board_claimBits 45 = .ok (.aload_n 0, 1) := by decide +kernel
theorem d_Board_claimBits_46 : decode b_Board_claimBits 46 = .ok (.getfield 21, 3) := by decide +kernel
theorem d_Board_claimBits_49 : decode b_Board_claimBits 49 = .ok (.iload_n 3, 1) := by decide +kernel
theorem d_Board_claimBits_50 : decode b_Board_claimBits 50 = .ok (.iconst (-1), 1) := by decide +kernel
theorem d_Board_claimBits_51 : decode b_Board_claimBits 51 = .ok (.iastore, 1) := by decide +kernel
theorem d_Board_claimBits_52 : decode b_Board_claimBits 52 = .ok (.iinc 3 1, 3) := by decide +kernel
theorem d_Board_claimBits_55 : decode b_Board_claimBits 55 = .ok (.goto (-18), 3) := by decide +kernel
theorem d_Board_claimBits_58 : decode b_Board_claimBits 58 = .ok (.iload_n 2, 1) := by decide +kernel
theorem d_Board_claimBits_59 : decode b_Board_claimBits 59 = .ok (.ireturn, 1) := by decide +kernel
set_option maxHeartbeats 4000000 in
set_option maxRecDepth 100000 in
theorem lp_Board_claimBits {p : Program} {l : Launch} {e : Env} {s : State} {m : MethodId} {args : Array Value} {below : List Frame} {meth : Method} {c : Code} {Q : State → Prop} {A : Nat → Prop} {dC : Nat → ClassId} {dI : Nat → Nat → Nat} {cB cI cL cZ cC cO : ClassId} {t0 : Nat} {qd a_from : Nat}{f0 f1 f4 f5 f6 f7 f8 f9 f10 f11 f12 f13 f14 f15 f16 f17 f18 : Value} {L : List Nat} {G : PG} {c0 st nb : Nat} {F : Nat → Nat ⊕ Nat} (hnb : nb ≤ 8000) (hx : p.tables.exec = Jvm.exec) (hb : c.code = b_Board_claimBits) (hml : c.maxLocals = 4) (hown : s.vm.findClass R_Board = some m.cls) (hts : ∀ w ∈ tb, w.before args s = true) (hA : ∀ q, s.heap.size ≤ q → A q) (hF : stF A s) (hE : stE A t0 s) (hK : va_K (dC, dI) cl [(cB, .byte), (cI, .int), (cL, .long), (cZ, .boolean), (cC, .char), (cO, .object "java/lang/Object")] s)
    (kx : ∀  (H : Heap) (locs : List Loc) (ls : Array Slot), va_P (dC, dI) cl ([(qd, .inr (9, [f0, f1, .ref a_from, .int (nI nb), f4, f5, f6, f7, f8, f9, f10, f11, f12, f13, f14, f15, f16, f17, f18])), (a_from, .inl (cI, 8000, .inl (xF F)))] ++ va_pl L (gE cO G)) H → va_D A ([(qd, .inr (9, [f0, f1, .ref a_from, .int (nI nb), f4, f5, f6, f7, f8, f9, f10, f11, f12, f13, f14, f15, f16, f17, f18])), (a_from, .inl (cI, 8000, .inl (xF F)))] ++ va_pl L (gE cO G)) → va_S A s.heap H locs → lv_has ls 4 [(0, .ref qd), (1, .ref c0), (2, .int (nI st))] → W p l e (headSpec w_Board_claimBits { frames := 0, cells := 0, slots := 0, locals := 0 }).room s m args below meth c H locs 0 0 Q (F0 m 58 ls [])) :
    ∀ (k : Nat) (i : Nat) (fr : Nat → Nat ⊕ Nat) (H : Heap) (locs : List Loc) (ls : Array Slot), nb < i + k → i ≤ nb → clm (nb - i) i fr = F → va_P (dC, dI) cl ([(qd, .inr (9, [f0, f1, .ref a_from, .int (nI nb), f4, f5, f6, f7, f8, f9, f10, f11, f12, f13, f14, f15, f16, f17, f18])), (a_from, .inl (cI, 8000, .inl (xF fr)))] ++ va_pl L (gE cO G)) H → va_D A ([(qd, .inr (9, [f0, f1, .ref a_from, .int (nI nb), f4, f5, f6, f7, f8, f9, f10, f11, f12, f13, f14, f15, f16, f17, f18])), (a_from, .inl (cI, 8000, .inl (xF fr)))] ++ va_pl L (gE cO G)) → va_S A s.heap H locs → lv_has ls 4 [(3, .int (nI i)), (0, .ref qd), (1, .ref c0), (2, .int (nI st))] → W p l e (headSpec w_Board_claimBits { frames := 0, cells := 0, slots := 0, locals := 0 }).room s m args below meth c H locs 0 0 Q (F0 m 37 ls []) := by
  intro k
  induction k with
  | zero =>
    intro i fr H locs ls hk hi hr hP hD hS hl
    exfalso; omega
  | succ k ih =>
    intro i fr H locs ls hk hi hr hP hD hS hl
    refine lv_iload_n hx hb d_Board_claimBits_37 rfl (lv_at hl 0 rfl) ?_
    refine lv_aload_n hx hb d_Board_claimBits_38 rfl (lv_at hl 1 rfl) ?_
    refine va_get (D := (dC, dI)) (ci := 9) (v := .int (nI nb)) (C := R_Board) (T := F_Board) (N := 19) hx hb hts i_Board hown hK hP 0 rfl rfl 3 (by decide) (hts _ k_376) (fun _ h9 => h9) rfl d_Board_claimBits_39 ?_
    refine nv_icmp_ge (tgt := 58) hx hb (by omega) (by omega) d_Board_claimBits_42 (by decide) (fun c_1 => ?_) (fun c_1 => ?_)
    · have hq : fr = F := by rw [← hr, clm_u, if_neg (by omega)]
      subst hq
      exact kx H locs ls hP hD hS (lv_sub hl [1, 2, 3] rfl)
    · refine lv_aload_n hx hb d_Board_claimBits_45 rfl (lv_at hl 1 rfl) ?_
      refine va_get (D := (dC, dI)) (ci := 9) (v := .ref a_from) (C := R_Board) (T := F_Board) (N := 19) hx hb hts i_Board hown hK hP 0 rfl rfl 2 (by decide) (hts _ k_375) (fun _ h9 => h9) rfl d_Board_claimBits_46 ?_
      refine lv_iload_n hx hb d_Board_claimBits_49 rfl (lv_at hl 0 rfl) ?_
      refine lv_iconst (v := (-1)) hx hb d_Board_claimBits_50 (by decide) ?_
      rw [show (-1 : Int32) = xI (.inr 0) from by decide]
      refine nv_iastX (x := .inr 0) hx hb hK hP hD hS 1 1 rfl rfl (by omega) (by decide) d_Board_claimBits_51 (fun H locs hP hD hS => ?_)
      have hP : va_P (dC, dI) cl ([(qd, .inr (9, [f0, f1, .ref a_from, .int (nI nb), f4, f5, f6, f7, f8, f9, f10, f11, f12, f13, f14, f15, f16, f17, f18])), (a_from, .inl (cI, 8000, .inl (xF (va_up fr i (.inr 0)))))] ++ va_pl L (gE cO G)) H := hP
      have hD : va_D A ([(qd, .inr (9, [f0, f1, .ref a_from, .int (nI nb), f4, f5, f6, f7, f8, f9, f10, f11, f12, f13, f14, f15, f16, f17, f18])), (a_from, .inl (cI, 8000, .inl (xF (va_up fr i (.inr 0)))))] ++ va_pl L (gE cO G)) := hD
      refine lv_iinc (v := nI (i + 1)) (lv' := [(3, .int (nI (i + 1))), (0, .ref qd), (1, .ref c0), (2, .int (nI st))]) hx hb d_Board_claimBits_52 hl (k := 0) rfl (nI_1 _) (by decide) rfl (fun ls hl => ?_)
      refine lv_goto (tgt := 37) hx hb d_Board_claimBits_55 (by decide) ?_
      exact ih (i + 1) (va_up fr i (.inr 0)) H locs ls (by omega) (by omega) (by rw [← hr, clm_u nb i, if_pos (by omega)]) hP hD hS (lv_sub hl [0, 1, 2, 3] rfl)
set_option maxHeartbeats 4000000 in
set_option maxRecDepth 100000 in
/-- claimBits(chip) -/
theorem p_Board_claimBits (l : Launch) (dC : Nat → ClassId) (dI : Nat → Nat → Nat) (cB cI cL cZ cC cO : ClassId) {qd a_from : Nat}{f0 f1 f4 f5 f6 f7 f8 f9 f10 f11 f12 f13 f14 f15 f16 f17 f18 : Value} {L : List Nat} {G : PG} (c0 nb : Nat) (fr : Nat → Nat ⊕ Nat) (t0 sz : Nat) (hL : gL L G) (hc : G.1 c0 = 6) (hnb : nb ≤ 8000) (hcb : G.2.1 c0 8 < 2 ^ 30) : Met l y_Board_claimBits w_Board_claimBits ({ frames := 0, cells := 0, slots := 0, locals := 0 }) (va_Pc [.ref qd, .ref c0] (wB2 (dC, dI) cl [(cB, .byte), (cI, .int), (cL, .long), (cZ, .boolean), (cC, .char), (cO, .object "java/lang/Object")] sz t0 ([(qd, .inr (9, [f0, f1, .ref a_from, .int (nI nb), f4, f5, f6, f7, f8, f9, f10, f11, f12, f13, f14, f15, f16, f17, f18])), (a_from, .inl (cI, 8000, .inl (xF fr)))] ++ va_pl L (gE cO G)))) (va_Qi (fun (r : Int32) (u : Nat × (Nat → Nat ⊕ Nat)) => if 8000 - nb < G.2.1 c0 8 then r = -1 ∧ u = (nb, fr) else r = nI nb ∧ u = (nb + G.2.1 c0 8, (clm (nb + G.2.1 c0 8 - nb) nb fr))) (fun u t => wA (dC, dI) cl [(cB, .byte), (cI, .int), (cL, .long), (cZ, .boolean), (cC, .char), (cO, .object "java/lang/Object")] (va_A ([(qd, .inr (9, [f0, f1, .ref a_from, .int (nI nb), f4, f5, f6, f7, f8, f9, f10, f11, f12, f13, f14, f15, f16, f17, f18])), (a_from, .inl (cI, 8000, .inl (xF fr)))] ++ va_pl L (gE cO G)) sz) ([(qd, .inr (9, [f0, f1, .ref a_from, .int (nI u.1), f4, f5, f6, f7, f8, f9, f10, f11, f12, f13, f14, f15, f16, f17, f18])), (a_from, .inl (cI, 8000, .inl (xF u.2)))] ++ va_pl L (gE cO G)) t) (va_A ([(qd, .inr (9, [f0, f1, .ref a_from, .int (nI nb), f4, f5, f6, f7, f8, f9, f10, f11, f12, f13, f14, f15, f16, f17, f18])), (a_from, .inl (cI, 8000, .inl (xF fr)))] ++ va_pl L (gE cO G)) sz)) 0 0 (va_A ([(qd, .inr (9, [f0, f1, .ref a_from, .int (nI nb), f4, f5, f6, f7, f8, f9, f10, f11, f12, f13, f14, f15, f16, f17, f18])), (a_from, .inl (cI, 8000, .inl (xF fr)))] ++ va_pl L (gE cO G)) sz) := by
  refine Met.ofW (cc := b_Board_claimBits) (maxL := 4) (ret := (some ClassFile.FieldType.int)) (by decide) rfl ?_
  intro p e s m args below meth c s₁ B hml hv
  obtain ⟨rfl, ⟨hsz, hP, hK, hD0, hF⟩, hE⟩ := hv
  have hx := B.exec
  have hb := B.bytes
  have hr := B.returns
  have hts := atoms_spec (ws := w_Board_claimBits) B.pre
  have hts : ∀ w ∈ tb, w.before _ s = true := fun w h => hts w (List.mem_cons_of_mem _ h)
  have hown : s.vm.findClass R_Board = some m.cls := findClass_of_methodNamed B.named
  have hlocks := B.notSynchronized
  subst hsz
  have hD := hD0.self (sz := s.heap.size)
  generalize hAe : va_A ([(qd, .inr (9, [f0, f1, .ref a_from, .int (nI nb), f4, f5, f6, f7, f8, f9, f10, f11, f12, f13, f14, f15, f16, f17, f18])), (a_from, .inl (cI, 8000, .inl (xF fr)))] ++ va_pl L (gE cO G)) s.heap.size = A at hD hF hE ⊢
  have hA : ∀ q : Nat, s.heap.size ≤ q → A q := fun q h => by rw [← hAe]; exact Or.inr h
  have hS : va_S A s.heap s.heap [] := va_S.rf
  have hP : va_P (dC, dI) cl ([(qd, .inr (9, [f0, f1, .ref a_from, .int (nI nb), f4, f5, f6, f7, f8, f9, f10, f11, f12, f13, f14, f15, f16, f17, f18])), (a_from, .inl (cI, 8000, .inl (xF fr)))] ++ va_pl L (gE cO G)) s.heap := hP
  have hl := lv_entry ([.ref qd, .ref c0]) (n := 4) (Nat.le_of_ble_eq_true rfl)
  rw [lg_entry_eq]
  generalize (lg_sl ([.ref qd, .ref c0]) ++ List.replicate (4 - (lg_sl ([.ref qd, .ref c0])).length) Slot.unset).toArray = ls at hl ⊢
  have hl : lv_has ls 4 [(0, .ref qd), (1, .ref c0)] := hl
  refine lv_aload_n hx hb d_Board_claimBits_0 rfl (lv_at hl 1 rfl) ?_
  refine pq_get (D := (dC, dI)) (ci := 6) (v := .int (nI (G.2.1 c0 8))) (C := R_Chip) (T := F_Chip) (N := 9) hx hb hts i_Chip hown hK hP (gL_m hL hc (by decide)) (gE_6 (G := G) hc) rfl 8 (by decide) (hts _ k_187) (fun _ h9 => h9) (congrArg (fun z9 => some (Value.int (nI z9))) rfl) d_Board_claimBits_1 ?_
  refine lv_sipush (v := nI 8000) hx hb d_Board_claimBits_4 (by decide) ?_
  refine lv_aload_n hx hb d_Board_claimBits_7 rfl (lv_at hl 0 rfl) ?_
  refine va_get (D := (dC, dI)) (ci := 9) (v := .int (nI nb)) (C := R_Board) (T := F_Board) (N := 19) hx hb hts i_Board hown hK hP 0 rfl rfl 3 (by decide) (hts _ k_376) (fun _ h9 => h9) rfl d_Board_claimBits_8 ?_
  refine nv_isub hx hb (by omega) d_Board_claimBits_11 ?_
  refine nv_icmp_le (tgt := 17) hx hb (by omega) (by omega) d_Board_claimBits_12 (by decide) (fun c_1 => ?_) (fun c_1 => ?_)
  · refine lv_aload_n hx hb d_Board_claimBits_17 rfl (lv_at hl 0 rfl) ?_
    refine va_get (D := (dC, dI)) (ci := 9) (v := .int (nI nb)) (C := R_Board) (T := F_Board) (N := 19) hx hb hts i_Board hown hK hP 0 rfl rfl 3 (by decide) (hts _ k_376) (fun _ h9 => h9) rfl d_Board_claimBits_18 ?_
    refine lv_istore_n (lv' := [(2, .int (nI nb)), (0, .ref qd), (1, .ref c0)]) hx hb d_Board_claimBits_21 rfl hl (by decide) rfl (fun ls hl => ?_)
    refine lv_aload_n hx hb d_Board_claimBits_22 rfl (lv_at hl 1 rfl) ?_
    refine lv_dup hx hb d_Board_claimBits_23 rfl ?_
    refine va_get (D := (dC, dI)) (ci := 9) (v := .int (nI nb)) (C := R_Board) (T := F_Board) (N := 19) hx hb hts i_Board hown hK hP 0 rfl rfl 3 (by decide) (hts _ k_376) (fun _ h9 => h9) rfl d_Board_claimBits_24 ?_
    refine lv_aload_n hx hb d_Board_claimBits_27 rfl (lv_at hl 2 rfl) ?_
    refine pq_get (D := (dC, dI)) (ci := 6) (v := .int (nI (G.2.1 c0 8))) (C := R_Chip) (T := F_Chip) (N := 9) hx hb hts i_Chip hown hK hP (gL_m hL hc (by decide)) (gE_6 (G := G) hc) rfl 8 (by decide) (hts _ k_187) (fun _ h9 => h9) (congrArg (fun z9 => some (Value.int (nI z9))) rfl) d_Board_claimBits_28 ?_
    refine nv_iadd hx hb d_Board_claimBits_31 ?_
    refine va_put (D := (dC, dI)) (ci := 9) (v := .int (nI (nb + (G.2.1 c0 8)))) (ty := .int) (C := R_Board) (T := F_Board) (N := 19) hx hb hts i_Board t_Board t_Board_ok n_Board hown hK hP hD hS 0 rfl rfl 3 (by decide) (hts _ k_376) (fun _ h9 => h9) rfl (by decide +kernel) rfl rfl (Nat.le_of_ble_eq_true rfl) d_Board_claimBits_32 (fun H locs hP hD hS => ?_)
    have hP : va_P (dC, dI) cl ([(qd, .inr (9, [f0, f1, .ref a_from, .int (nI (nb + (G.2.1 c0 8))), f4, f5, f6, f7, f8, f9, f10, f11, f12, f13, f14, f15, f16, f17, f18])), (a_from, .inl (cI, 8000, .inl (xF fr)))] ++ va_pl L (gE cO G)) H := hP
    have hD : va_D A ([(qd, .inr (9, [f0, f1, .ref a_from, .int (nI (nb + (G.2.1 c0 8))), f4, f5, f6, f7, f8, f9, f10, f11, f12, f13, f14, f15, f16, f17, f18])), (a_from, .inl (cI, 8000, .inl (xF fr)))] ++ va_pl L (gE cO G)) := hD
    refine lv_iload_n hx hb d_Board_claimBits_35 rfl (lv_at hl 0 rfl) ?_
    refine lv_istore_n (lv' := [(3, .int (nI nb)), (2, .int (nI nb)), (0, .ref qd), (1, .ref c0)]) hx hb d_Board_claimBits_36 rfl hl (by decide) rfl (fun ls hl => ?_)
    refine lp_Board_claimBits (nb := nb + G.2.1 c0 8) (F := (clm (nb + G.2.1 c0 8 - nb) nb fr)) (by omega) hx hb hml hown hts hA hF hE hK (fun H locs ls hP hD hS hl => ?_) (G.2.1 c0 8 + 1) nb fr _ _ ls (by omega) (by omega) rfl hP hD hS (lv_sub hl [0, 2, 3, 1] rfl)
    refine lv_iload_n hx hb d_Board_claimBits_58 rfl (lv_at hl 2 rfl) ?_
    exact wr_i hx hb hr hlocks (nb + G.2.1 c0 8, (clm (nb + G.2.1 c0 8 - nb) nb fr)) (by rw [if_neg (by omega)]; exact ⟨rfl, rfl⟩) hK hP hD hS d_Board_claimBits_59
  · refine lv_iconst (v := (-1)) hx hb d_Board_claimBits_15 (by decide) ?_
    exact wr_i hx hb hr hlocks (nb, fr) (by rw [if_pos (by omega)]; exact ⟨rfl, rfl⟩) hK hP hD hS d_Board_claimBits_16
