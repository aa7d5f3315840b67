theorem nI_max {a b : Nat} (ha : a < 2 ^ 31) (hb : b < 2 ^ 31) : (if nI a < nI b then nI b else nI a) = nI (max a b) := by
  by_cases h : a < b
  · rw [if_pos ((nI_ltI ha hb).mpr h), Nat.max_eq_right (by omega)]
  · rw [if_neg (fun q => h ((nI_ltI ha hb).mp q)), Nat.max_eq_left (by omega)]
theorem xb_of {fr : Nat → Nat ⊕ Nat} (hfr : ∀ i b, fr i = .inl b → b < 8000) (hfs : ∀ i s, fr i = .inr s → s < 430) (i : Nat) : xb (fr i) := by
  cases h : fr i with
  | inl b => exact Nat.lt_of_lt_of_le (hfr _ _ h) (by decide)
  | inr s => exact Nat.lt_of_lt_of_le (hfs _ _ h) (by decide)
section NVX
variable {p : Program} {l : Launch} {e : Env} {R : Room} {s : State} {m : MethodId} {args : Array Value} {below : List Frame} {meth : Method} {c : Code} {H : Heap} {locs : List Loc} {cells slots : Nat} {Q : State → Prop}
variable {cc : ByteArray} {pc : Nat} {ls : Array Slot} {rest : List Value} {D : va_G} {cl : List vw_C} {tys : List (ClassId × FieldType)} {ws : va_W} {A : Nat → Prop} {H0 : Heap} {a : Nat}
theorem nv_xif_lt (hexec : p.tables.exec = Jvm.exec) (hb : c.code = cc) {x : Nat ⊕ Nat} {off : Int} {tgt : Nat} (hx : xb x) (hdg : decode cc pc = .ok (.ifCond .lt off, 3)) (ht : (pc : Int) + off = (tgt : Int))
    (kt : (∃ s, x = .inr s) → W p l e R s m args below meth c H locs cells slots Q (F0 m (tgt) ls (rest))) (kf : (∃ b, x = .inl b) → W p l e R s m args below meth c H locs cells slots Q (F0 m (pc + 3) ls (rest))) : W p l e R s m args below meth c H locs cells slots Q (F0 m (pc) ls (.int (xI x) :: rest)) := lv_if_lt hexec hb hdg ht (fun h => kt ((xI_lt hx).mp h)) (fun h => kf (xI_ge.mp (fun q => h ((xI_lt hx).mpr q))))
theorem nv_xif_ge (hexec : p.tables.exec = Jvm.exec) (hb : c.code = cc) {x : Nat ⊕ Nat} {off : Int} {tgt : Nat} (hx : xb x) (hdg : decode cc pc = .ok (.ifCond .ge off, 3)) (ht : (pc : Int) + off = (tgt : Int))
    (kt : (∃ b, x = .inl b) → W p l e R s m args below meth c H locs cells slots Q (F0 m (tgt) ls (rest))) (kf : (∃ s, x = .inr s) → W p l e R s m args below meth c H locs cells slots Q (F0 m (pc + 3) ls (rest))) : W p l e R s m args below meth c H locs cells slots Q (F0 m (pc) ls (.int (xI x) :: rest)) := lv_if_ge hexec hb hdg ht (fun h => kt (xI_ge.mp (fun q => absurd ((xI_lt hx).mpr q) (Int32.not_lt.mpr h)))) (fun h => kf ((xI_lt hx).mp (Int32.not_le.mp h)))
theorem nv_iastX (hexec : p.tables.exec = Jvm.exec) (hb : c.code = cc) (hK : va_K D cl tys s) (hP : va_P D cl ws H) (hD : va_D A ws) (hS : va_S A H0 H locs) (q0 t0 : Nat) {cA : ClassId} {n : Nat} {ta : Nat → Nat ⊕ Nat} (ha : ws[q0]? = some (a, .inl (cA, n, .inl (xF ta)))) (ht : tys[t0]? = some (cA, .int)) {i : Nat} {x : Nat ⊕ Nat} (hi : i < n) (hn : n < 2 ^ 31) (hdg : decode cc pc = .ok (.iastore, 1))
    (kk : ∀ (H1 : Heap) (locs1 : List Loc), va_P D cl (ws.set q0 (a, .inl (cA, n, .inl (xF (va_up ta i x))))) H1 → va_D A (ws.set q0 (a, .inl (cA, n, .inl (xF (va_up ta i x))))) → va_S A H0 H1 locs1 → W p l e R s m args below meth c H1 locs1 cells slots Q (F0 m (pc + 1) ls (rest))) : W p l e R s m args below meth c H locs cells slots Q (F0 m (pc) ls (.int (xI x) :: .int (nI i) :: .ref a :: rest)) := nv_iast hexec hb hK hP hD hS q0 t0 ha ht hi hn hdg (by rw [up_x]; exact kk)
end NVX
theorem d_Board_signalOf_0 : decode b_Board_signalOf 0 = .ok (.iload_n 1, 1) := by decide +kernel
theorem d_Board_signalOf_1 : decode b_Board_signalOf 1 = .ok (.istore_n 2, 1) := by decide +kernel
theorem d_Board_signalOf_2 : decode b_Board_signalOf 2 = .ok (.iconst 0, 1) := by decide +kernel
theorem d_Board_signalOf_3 : decode b_Board_signalOf 3 = .ok (.istore_n 3, 1) := by decide +kernel
theorem d_Board_signalOf_4 : decode b_Board_signalOf 4 = .ok (.iload_n 3, 1) := by decide +kernel
theorem d_Board_signalOf_5 : decode b_Board_signalOf 5 = .ok (.aload_n 0, 1) := by decide +kernel
theorem d_Board_signalOf_6 : decode b_Board_signalOf 6 = .ok (.getfield 25, 3) := by decide +kernel
theorem d_Board_signalOf_9 : decode b_Board_signalOf 9 = .ok (.if_icmp .ge 25, 3) := by decide +kernel
theorem d_Board_signalOf_12 : decode b_Board_signalOf 12 = .ok (.aload_n 0, 1) := by decide +kernel
theorem d_Board_signalOf_13 : decode b_Board_signalOf 13 = .ok (.getfield 21, 3) := by decide +kernel
theorem d_Board_signalOf_16 : decode b_Board_signalOf 16 = .ok (.iload_n 2, 1) := by decide +kernel
theorem d_Board_signalOf_17 : decode b_Board_signalOf 17 = .ok (.iaload, 1) := by decide +kernel
theorem d_Board_signalOf_18 : decode b_Board_signalOf 18 = .ok (.ifCond .lt 16, 3) := by decide +kernel
theorem d_Board_signalOf_21 : decode b_Board_signalOf 21 = .ok (.aload_n 0, 1) := by decide +kernel
theorem d_Board_signalOf_22 : decode b_Board_signalOf 22 = .ok (.getfield 21, 3) := by decide +kernel
theorem d_Board_signalOf_25 : decode b_Board_signalOf 25 = .ok (.iload_n 2, 1) := by decide +kernel
theorem d_Board_signalOf_26 : decode b_Board_signalOf 26 = .ok (.iaload, 1) := by decide +kernel
theorem d_Board_signalOf_27 : decode b_Board_signalOf 27 = .ok (.istore_n 2, 1) := by decide +kernel
theorem d_Board_signalOf_28 : decode b_Board_signalOf 28 = .ok (.iinc 3 1, 3) := by decide +kernel
theorem d_Board_signalOf_31 : decode b_Board_signalOf 31 = .ok (.goto (-27), 3) := by decide +kernel
theorem d_Board_signalOf_34 : decode b_Board_signalOf 34 = .ok (.aload_n 0, 1) := by decide +kernel
theorem d_Board_signalOf_35 : decode b_Board_signalOf 35 = .ok (.getfield 21, 3) := by decide +kernel
theorem d_Board_signalOf_38 : decode b_Board_signalOf 38 = .ok (.iload_n 2, 1) := by decide +kernel
theorem d_Board_signalOf_39 : decode b_Board_signalOf 39 = .ok (.iaload, 1) := by decide +kernel
theorem d_Board_signalOf_40 : decode b_Board_signalOf 40 = .ok (.ifCond .ge 14, 3) := by decide +kernel
theorem d_Board_signalOf_43 : decode b_Board_signalOf 43 = .ok (.aload_n 0, 1) := by decide +kernel
theorem d_Board_signalOf_44 : decode b_Board_signalOf 44 = .ok (.getfield 21, 3) := by decide +kernel
theorem d_Board_signalOf_47 : decode b_Board_signalOf 47 = .ok (.iload_n 2, 1) := by decide +kernel
theorem d_Board_signalOf_48 : decode b_Board_signalOf 48 = .ok (.iaload, 1) := by decide +kernel
theorem d_Board_signalOf_49 : decode b_Board_signalOf 49 = .ok (.iconst (-1), 1) := by decide +kernel
theorem d_Board_signalOf_50 : decode b_Board_signalOf 50 = .ok (.ixor, 1) := by decide +kernel
theorem d_Board_signalOf_51 : decode b_Board_signalOf 51 = .ok (.goto 4, 3) := by decide +kernel
theorem d_Board_signalOf_54 : decode b_Board_signalOf 54 = .ok (.iconst 0, 1) := by decide +kernel
theorem d_Board_signalOf_55 : decode b_Board_signalOf 55 = .ok (.ireturn, 1) := by decide +kernel
set_option maxHeartbeats 4000000 in
set_option maxRecDepth 100000 in
theorem lp_Board_signalOf {p : Program} {l : Launch} {e : Env} {s : State} {m : MethodId} {args : Array Value} {below : List Frame} {meth : Method} {c : Code} {Q : State → Prop} {A : Nat → Prop} {dC : Nat → ClassId} {dI : Nat → Nat → Nat} {cB cI cL cZ cC cO : ClassId} {qd a_from : Nat}{f0 f1 f4 f5 f6 f7 f8 f9 f10 f11 f12 f13 f14 f15 f16 f17 f18 : Value} {fr : Nat → Nat ⊕ Nat} {nb b F : Nat} (hnb : nb ≤ 8000) (hfr : ∀ i b, fr i = .inl b → b < 8000) (hfs : ∀ i s, fr i = .inr s → s < 430) (hx : p.tables.exec = Jvm.exec) (hb : c.code = b_Board_signalOf) (hml : c.maxLocals = 4) (hown : s.vm.findClass R_Board = some m.cls) (hts : ∀ w ∈ tb, w.before args s = true) (hA : ∀ q, s.heap.size ≤ q → A q) (hF : stF A s) (hK : va_K (dC, dI) cl [(cB, .byte), (cI, .int), (cL, .long), (cZ, .boolean), (cC, .char), (cO, .object "java/lang/Object")] s)
    (kx : ∀  (H : Heap) (locs : List Loc) (ls : Array Slot), F < 8000 → va_P (dC, dI) cl [(qd, .inr (9, [f0, f1, .ref a_from, .int (nI nb), f4, f5, f6, f7, f8, f9, f10, f11, f12, f13, f14, f15, f16, f17, f18])), (a_from, .inl (cI, 8000, .inl (xF fr)))] H → va_D A [(qd, .inr (9, [f0, f1, .ref a_from, .int (nI nb), f4, f5, f6, f7, f8, f9, f10, f11, f12, f13, f14, f15, f16, f17, f18])), (a_from, .inl (cI, 8000, .inl (xF fr)))] → va_S A s.heap H locs → lv_has ls 4 [(2, .int (nI F)), (1, .int (nI b)), (0, .ref qd)] → W p l e (headSpec w_Board_signalOf { frames := 0, cells := 0, slots := 0, locals := 0 }).room s m args below meth c H locs 0 0 Q (F0 m 34 ls [])) :
    ∀ (k : Nat) (n a_ : Nat) (H : Heap) (locs : List Loc) (ls : Array Slot), nb < n + k → n ≤ nb → a_ < 8000 → sg_w fr (nb - n) a_ = F → va_P (dC, dI) cl [(qd, .inr (9, [f0, f1, .ref a_from, .int (nI nb), f4, f5, f6, f7, f8, f9, f10, f11, f12, f13, f14, f15, f16, f17, f18])), (a_from, .inl (cI, 8000, .inl (xF fr)))] H → va_D A [(qd, .inr (9, [f0, f1, .ref a_from, .int (nI nb), f4, f5, f6, f7, f8, f9, f10, f11, f12, f13, f14, f15, f16, f17, f18])), (a_from, .inl (cI, 8000, .inl (xF fr)))] → va_S A s.heap H locs → lv_has ls 4 [(3, .int (nI n)), (2, .int (nI a_)), (1, .int (nI b)), (0, .ref qd)] → W p l e (headSpec w_Board_signalOf { frames := 0, cells := 0, slots := 0, locals := 0 }).room s m args below meth c H locs 0 0 Q (F0 m 4 ls []) := by
  intro k
  induction k with
  | zero =>
    intro n a_ H locs ls hk hn ha9 hr hP hD hS hl
    exfalso; omega
  | succ k ih =>
    intro n a_ H locs ls hk hn ha9 hr hP hD hS hl
    refine lv_iload_n hx hb d_Board_signalOf_4 rfl (lv_at hl 0 rfl) ?_
    refine lv_aload_n hx hb d_Board_signalOf_5 rfl (lv_at hl 3 rfl) ?_
    refine va_get (D := (dC, dI)) (ci := 9) (v := .int (nI nb)) (C := R_Board) (T := F_Board) (N := 19) hx hb hts i_Board hown hK hP 0 rfl rfl 3 (by decide) (hts _ k_376) (fun _ h9 => h9) rfl d_Board_signalOf_6 ?_
    refine nv_icmp_ge (tgt := 34) hx hb (by omega) (by omega) d_Board_signalOf_9 (by decide) (fun c_1 => ?_) (fun c_1 => ?_)
    · have hq : a_ = F := by rw [← hr, show nb - n = 0 by omega]; rfl
      subst hq
      exact kx H locs ls ha9 hP hD hS (lv_sub hl [1, 2, 3] rfl)
    · refine lv_aload_n hx hb d_Board_signalOf_12 rfl (lv_at hl 3 rfl) ?_
      refine va_get (D := (dC, dI)) (ci := 9) (v := .ref a_from) (C := R_Board) (T := F_Board) (N := 19) hx hb hts i_Board hown hK hP 0 rfl rfl 2 (by decide) (hts _ k_375) (fun _ h9 => h9) rfl d_Board_signalOf_13 ?_
      refine lv_iload_n hx hb d_Board_signalOf_16 rfl (lv_at hl 1 rfl) ?_
      refine nv_iald hx hb hK hP 1 1 rfl rfl (by omega) (by decide) d_Board_signalOf_17 ?_
      refine nv_xif_lt (tgt := 34) hx hb (xb_of hfr hfs _) d_Board_signalOf_18 (by decide) (fun c_2 => ?_) (fun c_2 => ?_)
      · obtain ⟨s9, hs9⟩ := c_2
        have hq : a_ = F := by rw [← hr]; exact (sg_r hs9 _).symm
        subst hq
        exact kx H locs ls ha9 hP hD hS (lv_sub hl [1, 2, 3] rfl)
      · refine lv_aload_n hx hb d_Board_signalOf_21 rfl (lv_at hl 3 rfl) ?_
        refine va_get (D := (dC, dI)) (ci := 9) (v := .ref a_from) (C := R_Board) (T := F_Board) (N := 19) hx hb hts i_Board hown hK hP 0 rfl rfl 2 (by decide) (hts _ k_375) (fun _ h9 => h9) rfl d_Board_signalOf_22 ?_
        refine lv_iload_n hx hb d_Board_signalOf_25 rfl (lv_at hl 1 rfl) ?_
        refine nv_iald hx hb hK hP 1 1 rfl rfl (by omega) (by decide) d_Board_signalOf_26 ?_
        obtain ⟨b9, hb9⟩ := c_2
        rw [show xF fr a_ = nI b9 from by show xI (fr a_) = nI b9; rw [hb9]; rfl]
        refine lv_istore_n (lv' := [(2, .int (nI b9)), (3, .int (nI n)), (1, .int (nI b)), (0, .ref qd)]) hx hb d_Board_signalOf_27 rfl hl (by decide) rfl (fun ls hl => ?_)
        refine lv_iinc (v := nI (n + 1)) (lv' := [(3, .int (nI (n + 1))), (2, .int (nI b9)), (1, .int (nI b)), (0, .ref qd)]) hx hb d_Board_signalOf_28 hl (k := 1) rfl (nI_1 _) (by decide) rfl (fun ls hl => ?_)
        refine lv_goto (tgt := 4) hx hb d_Board_signalOf_31 (by decide) ?_
        exact ih (n + 1) b9 H locs ls (by omega) (by omega) (hfr _ _ hb9) (by rw [← hr, show nb - n = (nb - (n + 1)) + 1 by omega, sg_l hb9]) hP hD hS (lv_sub hl [0, 1, 2, 3] rfl)
set_option maxHeartbeats 4000000 in
set_option maxRecDepth 100000 in
/-- signalOf(bit) -/
theorem c_Board_signalOf (l : Launch) (dC : Nat → ClassId) (dI : Nat → Nat → Nat) (cB cI cL cZ cC cO : ClassId) {qd a_from : Nat}{f0 f1 f4 f5 f6 f7 f8 f9 f10 f11 f12 f13 f14 f15 f16 f17 f18 : Value} (fr : Nat → Nat ⊕ Nat) (nb b : Nat) (sz : Nat) (hnb : nb ≤ 8000) (hfr : ∀ i b, fr i = .inl b → b < 8000) (hfs : ∀ i s, fr i = .inr s → s < 430) (hb0 : b < 8000) : Met l y_Board_signalOf w_Board_signalOf ({ frames := 0, cells := 0, slots := 0, locals := 0 }) (va_Pc [.ref qd, .int (nI b)] (wB (dC, dI) cl [(cB, .byte), (cI, .int), (cL, .long), (cZ, .boolean), (cC, .char), (cO, .object "java/lang/Object")] sz [(qd, .inr (9, [f0, f1, .ref a_from, .int (nI nb), f4, f5, f6, f7, f8, f9, f10, f11, f12, f13, f14, f15, f16, f17, f18])), (a_from, .inl (cI, 8000, .inl (xF fr)))])) (va_Qi (fun (r : Int32) (u : Unit) => r = nI (sgo fr nb b)) (fun _ t => wA (dC, dI) cl [(cB, .byte), (cI, .int), (cL, .long), (cZ, .boolean), (cC, .char), (cO, .object "java/lang/Object")] (va_A [(qd, .inr (9, [f0, f1, .ref a_from, .int (nI nb), f4, f5, f6, f7, f8, f9, f10, f11, f12, f13, f14, f15, f16, f17, f18])), (a_from, .inl (cI, 8000, .inl (xF fr)))] sz) [(qd, .inr (9, [f0, f1, .ref a_from, .int (nI nb), f4, f5, f6, f7, f8, f9, f10, f11, f12, f13, f14, f15, f16, f17, f18])), (a_from, .inl (cI, 8000, .inl (xF fr)))] t) (va_A [(qd, .inr (9, [f0, f1, .ref a_from, .int (nI nb), f4, f5, f6, f7, f8, f9, f10, f11, f12, f13, f14, f15, f16, f17, f18])), (a_from, .inl (cI, 8000, .inl (xF fr)))] sz)) 0 0 (va_A [(qd, .inr (9, [f0, f1, .ref a_from, .int (nI nb), f4, f5, f6, f7, f8, f9, f10, f11, f12, f13, f14, f15, f16, f17, f18])), (a_from, .inl (cI, 8000, .inl (xF fr)))] sz) := by
  refine Met.ofW (cc := b_Board_signalOf) (maxL := 4) (ret := (some ClassFile.FieldType.int)) (by decide) rfl ?_
  intro p e s m args below meth c s₁ B hml hv
  obtain ⟨rfl, hsz, hP, hK, hD0, hF⟩ := hv
  have hx := B.exec
  have hb := B.bytes
  have hr := B.returns
  have hts := atoms_spec (ws := w_Board_signalOf) B.pre
  have hts : ∀ w ∈ tb, w.before _ s = true := fun w h => hts w (List.mem_cons_of_mem _ h)
  have hown : s.vm.findClass R_Board = some m.cls := findClass_of_methodNamed B.named
  have hlocks := B.notSynchronized
  subst hsz
  have hD := hD0.self (sz := s.heap.size)
  generalize hAe : va_A [(qd, .inr (9, [f0, f1, .ref a_from, .int (nI nb), f4, f5, f6, f7, f8, f9, f10, f11, f12, f13, f14, f15, f16, f17, f18])), (a_from, .inl (cI, 8000, .inl (xF fr)))] s.heap.size = A at hD hF ⊢
  have hA : ∀ q : Nat, s.heap.size ≤ q → A q := fun q h => by rw [← hAe]; exact Or.inr h
  have hS : va_S A s.heap s.heap [] := va_S.rf
  have hP : va_P (dC, dI) cl [(qd, .inr (9, [f0, f1, .ref a_from, .int (nI nb), f4, f5, f6, f7, f8, f9, f10, f11, f12, f13, f14, f15, f16, f17, f18])), (a_from, .inl (cI, 8000, .inl (xF fr)))] s.heap := hP
  have hl := lv_entry ([.ref qd, .int (nI b)]) (n := 4) (Nat.le_of_ble_eq_true rfl)
  rw [lg_entry_eq]
  generalize (lg_sl ([.ref qd, .int (nI b)]) ++ List.replicate (4 - (lg_sl ([.ref qd, .int (nI b)])).length) Slot.unset).toArray = ls at hl ⊢
  have hl : lv_has ls 4 [(0, .ref qd), (1, .int (nI b))] := hl
  refine lv_iload_n hx hb d_Board_signalOf_0 rfl (lv_at hl 1 rfl) ?_
  refine lv_istore_n (lv' := [(2, .int (nI b)), (0, .ref qd), (1, .int (nI b))]) hx hb d_Board_signalOf_1 rfl hl (by decide) rfl (fun ls hl => ?_)
  refine lv_iconst (v := nI 0) hx hb d_Board_signalOf_2 (by decide) ?_
  refine lv_istore_n (lv' := [(3, .int (nI 0)), (2, .int (nI b)), (0, .ref qd), (1, .int (nI b))]) hx hb d_Board_signalOf_3 rfl hl (by decide) rfl (fun ls hl => ?_)
  refine lp_Board_signalOf (F := (sg_w fr nb b)) hnb hfr hfs hx hb hml hown hts hA hF hK (fun H locs ls hF9 hP hD hS hl => ?_) (nb + 1) 0 b _ _ ls (by omega) (by omega) hb0 rfl hP hD hS (lv_sub hl [0, 1, 3, 2] rfl)
  refine lv_aload_n hx hb d_Board_signalOf_34 rfl (lv_at hl 2 rfl) ?_
  refine va_get (D := (dC, dI)) (ci := 9) (v := .ref a_from) (C := R_Board) (T := F_Board) (N := 19) hx hb hts i_Board hown hK hP 0 rfl rfl 2 (by decide) (hts _ k_375) (fun _ h9 => h9) rfl d_Board_signalOf_35 ?_
  refine lv_iload_n hx hb d_Board_signalOf_38 rfl (lv_at hl 0 rfl) ?_
  refine nv_iald hx hb hK hP 1 1 rfl rfl (by omega) (by decide) d_Board_signalOf_39 ?_
  refine nv_xif_ge (tgt := 54) hx hb (xb_of hfr hfs _) d_Board_signalOf_40 (by decide) (fun c_1 => ?_) (fun c_1 => ?_)
  · refine lv_iconst (v := nI 0) hx hb d_Board_signalOf_54 (by decide) ?_
    exact wr_i hx hb hr hlocks () (by obtain ⟨b9, hb9⟩ := c_1; rw [sgo_l hb9]) hK hP hD hS d_Board_signalOf_55
  · refine lv_aload_n hx hb d_Board_signalOf_43 rfl (lv_at hl 2 rfl) ?_
    refine va_get (D := (dC, dI)) (ci := 9) (v := .ref a_from) (C := R_Board) (T := F_Board) (N := 19) hx hb hts i_Board hown hK hP 0 rfl rfl 2 (by decide) (hts _ k_375) (fun _ h9 => h9) rfl d_Board_signalOf_44 ?_
    refine lv_iload_n hx hb d_Board_signalOf_47 rfl (lv_at hl 0 rfl) ?_
    refine nv_iald hx hb hK hP 1 1 rfl rfl (by omega) (by decide) d_Board_signalOf_48 ?_
    refine lv_iconst (v := (-1)) hx hb d_Board_signalOf_49 (by decide) ?_
    refine lv_ixor hx hb d_Board_signalOf_50 ?_
    refine lv_goto (tgt := 55) hx hb d_Board_signalOf_51 (by decide) ?_
    exact wr_i hx hb hr hlocks () (by obtain ⟨s9, hs9⟩ := c_1; rw [sgo_r hs9]; show xI (fr (sg_w fr nb b)) ^^^ (-1) = nI s9; rw [hs9]; exact xn_x s9) hK hP hD hS d_Board_signalOf_55
theorem d_Board_findSignals_0 : decode b_Board_findSignals 0 = .ok (.iconst 0, 1) := by decide +kernel
theorem d_Board_findSignals_1 : decode b_Board_findSignals 1 = .ok (.istore_n 1, 1) := by decide +kernel
theorem d_Board_findSignals_2 : decode b_Board_findSignals 2 = .ok (.iload_n 1, 1) := by decide +kernel
theorem d_Board_findSignals_3 : decode b_Board_findSignals 3 = .ok (.aload_n 0, 1) := by decide +kernel
theorem d_Board_findSignals_4 : decode b_Board_findSignals 4 = .ok (.getfield 38, 3) := by decide +kernel
theorem d_Board_findSignals_7 : decode b_Board_findSignals 7 = .ok (.if_icmp .ge 41, 3) := by decide +kernel
theorem d_Board_findSignals_10 : decode b_Board_findSignals 10 = .ok (.aload_n 0, 1) := by decide +kernel
theorem d_Board_findSignals_11 : decode b_Board_findSignals 11 = .ok (.getfield 32, 3) := by decide +kernel
theorem d_Board_findSignals_14 : decode b_Board_findSignals 14 = .ok (.iload_n 1, 1) := by decide +kernel
theorem d_Board_findSignals_15 : decode b_Board_findSignals 15 = .ok (.aload_n 0, 1) := by decide +kernel
theorem d_Board_findSignals_16 : decode b_Board_findSignals 16 = .ok (.aload_n 0, 1) := by decide +kernel
theorem d_Board_findSignals_17 : decode b_Board_findSignals 17 = .ok (.getfield 32, 3) := by decide +kernel
theorem d_Board_findSignals_20 : decode b_Board_findSignals 20 = .ok (.iload_n 1, 1) := by decide +kernel
theorem d_Board_findSignals_21 : decode b_Board_findSignals 21 = .ok (.iaload, 1) := by decide +kernel
theorem d_Board_findSignals_22 : decode b_Board_findSignals 22 = .ok (.invokevirtual 173, 3) := by decide +kernel
theorem d_Board_findSignals_25 : decode b_Board_findSignals 25 = .ok (.iastore, 1) := by decide +kernel
theorem d_Board_findSignals_26 : decode b_Board_findSignals 26 = .ok (.aload_n 0, 1) := by decide +kernel
theorem d_Board_findSignals_27 : decode b_Board_findSignals 27 = .ok (.getfield 35, 3) := by decide +kernel
theorem d_Board_findSignals_30 : decode b_Board_findSignals 30 = .ok (.iload_n 1, 1) := by decide +kernel
theorem d_Board_findSignals_31 : decode b_Board_findSignals 31 = .ok (.aload_n 0, 1) := by decide +kernel
theorem d_Board_findSignals_32 : decode b_Board_findSignals 32 = .ok (.aload_n 0, 1) := by decide +kernel
theorem d_Board_findSignals_33 : decode b_Board_findSignals 33 = .ok (.getfield 35, 3) := by decide +kernel
theorem d_Board_findSignals_36 : decode b_Board_findSignals 36 = .ok (.iload_n 1, 1) := by decide +kernel
theorem d_Board_findSignals_37 : decode b_Board_findSignals 37 = .ok (.iaload, 1) := by decide +kernel
theorem d_Board_findSignals_38 : decode b_Board_findSignals 38 = .ok (.invokevirtual 173, 3) := by decide +kernel
theorem d_Board_findSignals_41 : decode b_Board_findSignals 41 = .ok (.iastore, 1) := by decide +kernel
theorem d_Board_findSignals_42 : decode b_Board_findSignals 42 = .ok (.iinc 1 1, 3) := by decide +kernel
theorem d_Board_findSignals_45 : decode b_Board_findSignals 45 = .ok (.goto (-43), 3) := by decide +kernel
theorem d_Board_findSignals_48 : decode b_Board_findSignals 48 = .ok (.return_, 1) := by decide +kernel
set_option maxHeartbeats 4000000 in
set_option maxRecDepth 100000 in
theorem lp_Board_findSignals {p : Program} {l : Launch} {e : Env} {s : State} {m : MethodId} {args : Array Value} {below : List Frame} {meth : Method} {c : Code} {Q : State → Prop} {A : Nat → Prop} {dC : Nat → ClassId} {dI : Nat → Nat → Nat} {cB cI cL cZ cC cO : ClassId} {qd a_from a_firstIn a_secondIn : Nat}{f0 f1 f4 f8 f9 f10 f11 f12 f13 f14 f15 f16 f17 f18 : Value} {fr : Nat → Nat ⊕ Nat} {nb ng : Nat} {F : (Nat → Nat) × (Nat → Nat)} (hnb : nb ≤ 8000) (hfr : ∀ i b, fr i = .inl b → b < 8000) (hfs : ∀ i s, fr i = .inr s → s < 430) (hng : ng ≤ 300) (hx : p.tables.exec = Jvm.exec) (hb : c.code = b_Board_findSignals) (hml : c.maxLocals = 2) (hown : s.vm.findClass R_Board = some m.cls) (hts : ∀ w ∈ tb, w.before args s = true) (hA : ∀ q, s.heap.size ≤ q → A q) (hF : stF A s) (hK : va_K (dC, dI) cl [(cB, .byte), (cI, .int), (cL, .long), (cZ, .boolean), (cC, .char), (cO, .object "java/lang/Object")] s)
    (kx : ∀  (H : Heap) (locs : List Loc) (ls : Array Slot), va_P (dC, dI) cl [(qd, .inr (9, [f0, f1, .ref a_from, .int (nI nb), f4, .ref a_firstIn, .ref a_secondIn, .int (nI ng), f8, f9, f10, f11, f12, f13, f14, f15, f16, f17, f18])), (a_from, .inl (cI, 8000, .inl (xF fr))), (a_firstIn, .inl (cI, 300, .inl (nF F.1))), (a_secondIn, .inl (cI, 300, .inl (nF F.2)))] H → va_D A [(qd, .inr (9, [f0, f1, .ref a_from, .int (nI nb), f4, .ref a_firstIn, .ref a_secondIn, .int (nI ng), f8, f9, f10, f11, f12, f13, f14, f15, f16, f17, f18])), (a_from, .inl (cI, 8000, .inl (xF fr))), (a_firstIn, .inl (cI, 300, .inl (nF F.1))), (a_secondIn, .inl (cI, 300, .inl (nF F.2)))] → va_S A s.heap H locs → lv_has ls 2 [(0, .ref qd)] → W p l e (headSpec w_Board_findSignals { frames := 1, cells := 0, slots := 0, locals := 30 }).room s m args below meth c H locs 0 0 Q (F0 m 48 ls [])) :
    ∀ (k : Nat) (i : Nat) (fi si : Nat → Nat) (H : Heap) (locs : List Loc) (ls : Array Slot), ng < i + k → i ≤ ng → (∀ x, fi x < 8000) → (∀ x, si x < 8000) → fsg fr nb (ng - i) i (fi, si) = F → va_P (dC, dI) cl [(qd, .inr (9, [f0, f1, .ref a_from, .int (nI nb), f4, .ref a_firstIn, .ref a_secondIn, .int (nI ng), f8, f9, f10, f11, f12, f13, f14, f15, f16, f17, f18])), (a_from, .inl (cI, 8000, .inl (xF fr))), (a_firstIn, .inl (cI, 300, .inl (nF fi))), (a_secondIn, .inl (cI, 300, .inl (nF si)))] H → va_D A [(qd, .inr (9, [f0, f1, .ref a_from, .int (nI nb), f4, .ref a_firstIn, .ref a_secondIn, .int (nI ng), f8, f9, f10, f11, f12, f13, f14, f15, f16, f17, f18])), (a_from, .inl (cI, 8000, .inl (xF fr))), (a_firstIn, .inl (cI, 300, .inl (nF fi))), (a_secondIn, .inl (cI, 300, .inl (nF si)))] → va_S A s.heap H locs → lv_has ls 2 [(1, .int (nI i)), (0, .ref qd)] → W p l e (headSpec w_Board_findSignals { frames := 1, cells := 0, slots := 0, locals := 30 }).room s m args below meth c H locs 0 0 Q (F0 m 2 ls []) := by
  intro k
  induction k with
  | zero =>
    intro i fi si H locs ls hk hi h_fi h_si hr hP hD hS hl
    exfalso; omega
  | succ k ih =>
    intro i fi si H locs ls hk hi h_fi h_si hr hP hD hS hl
    refine lv_iload_n hx hb d_Board_findSignals_2 rfl (lv_at hl 0 rfl) ?_
    refine lv_aload_n hx hb d_Board_findSignals_3 rfl (lv_at hl 1 rfl) ?_
    refine va_get (D := (dC, dI)) (ci := 9) (v := .int (nI ng)) (C := R_Board) (T := F_Board) (N := 19) hx hb hts i_Board hown hK hP 0 rfl rfl 7 (by decide) (hts _ k_380) (fun _ h9 => h9) rfl d_Board_findSignals_4 ?_
    refine nv_icmp_ge (tgt := 48) hx hb (by omega) (by omega) d_Board_findSignals_7 (by decide) (fun c_1 => ?_) (fun c_1 => ?_)
    · have hq : (fi, si) = F := by rw [← hr, fsg_u, if_neg (by omega)]
      subst hq
      exact kx H locs ls hP hD hS (lv_sub hl [1] rfl)
    · refine lv_aload_n hx hb d_Board_findSignals_10 rfl (lv_at hl 1 rfl) ?_
      refine va_get (D := (dC, dI)) (ci := 9) (v := .ref a_firstIn) (C := R_Board) (T := F_Board) (N := 19) hx hb hts i_Board hown hK hP 0 rfl rfl 5 (by decide) (hts _ k_378) (fun _ h9 => h9) rfl d_Board_findSignals_11 ?_
      refine lv_iload_n hx hb d_Board_findSignals_14 rfl (lv_at hl 0 rfl) ?_
      refine lv_aload_n hx hb d_Board_findSignals_15 rfl (lv_at hl 1 rfl) ?_
      refine lv_aload_n hx hb d_Board_findSignals_16 rfl (lv_at hl 1 rfl) ?_
      refine va_get (D := (dC, dI)) (ci := 9) (v := .ref a_firstIn) (C := R_Board) (T := F_Board) (N := 19) hx hb hts i_Board hown hK hP 0 rfl rfl 5 (by decide) (hts _ k_378) (fun _ h9 => h9) rfl d_Board_findSignals_17 ?_
      refine lv_iload_n hx hb d_Board_findSignals_20 rfl (lv_at hl 0 rfl) ?_
      refine nv_iald hx hb hK hP 2 1 rfl rfl (by omega) (by decide) d_Board_findSignals_21 ?_
      refine wc_i (wc := [(qd, .inr (9, [f0, f1, .ref a_from, .int (nI nb), f4, .ref a_firstIn, .ref a_secondIn, .int (nI ng), f8, f9, f10, f11, f12, f13, f14, f15, f16, f17, f18])), (a_from, .inl (cI, 8000, .inl (xF fr)))]) (wr := [(a_firstIn, .inl (cI, 300, .inl (nF fi))), (a_secondIn, .inl (cI, 300, .inl (nF si)))]) (va_runV (As := [.int (nI (fi i))]) (rest := [.int (nI i), .ref a_firstIn]) ⟨hx, hb, hml, hown, hts⟩ (c_Board_signalOf l dC dI cB cI cL cZ cC cO fr nb (fi i) _ hnb hfr hfs (h_fi i)) (cwV 1 hts (good_V k_805 k_807 s_Board_signalOf k_18 k_808) rfl rfl rfl (by decide +kernel) ⟨Nat.le_of_ble_eq_true rfl, Nat.le_of_ble_eq_true rfl⟩) (wc_preV (k0 := 0) (ci := 9) (r := (R_Board, F_Board, 19)) hK hP hD hS hA hF [0, 1] (by decide) rfl rfl rfl) rfl rfl hl.1 rfl (lv_room (Nat.le_of_ble_eq_true rfl)) d_Board_findSignals_22 ⟨Nat.le_of_ble_eq_true rfl, Nat.le_of_ble_eq_true rfl⟩) hP hD hS hA [0, 1] [2, 3] rfl rfl (by decide) (by decide) (fun r_3 u H locs w_2 hP hD hS => ?_)
      have hP : va_P (dC, dI) cl [(a_firstIn, .inl (cI, 300, .inl (nF fi))), (a_secondIn, .inl (cI, 300, .inl (nF si))), (qd, .inr (9, [f0, f1, .ref a_from, .int (nI nb), f4, .ref a_firstIn, .ref a_secondIn, .int (nI ng), f8, f9, f10, f11, f12, f13, f14, f15, f16, f17, f18])), (a_from, .inl (cI, 8000, .inl (xF fr)))] H := hP
      have hD : va_D A [(a_firstIn, .inl (cI, 300, .inl (nF fi))), (a_secondIn, .inl (cI, 300, .inl (nF si))), (qd, .inr (9, [f0, f1, .ref a_from, .int (nI nb), f4, .ref a_firstIn, .ref a_secondIn, .int (nI ng), f8, f9, f10, f11, f12, f13, f14, f15, f16, f17, f18])), (a_from, .inl (cI, 8000, .inl (xF fr)))] := hD
      subst w_2
      refine nv_iastN (x := sgo fr nb (fi i)) hx hb hK hP hD hS 0 1 rfl rfl (by omega) (by decide) d_Board_findSignals_25 (fun H locs hP hD hS => ?_)
      have hP : va_P (dC, dI) cl [(a_firstIn, .inl (cI, 300, .inl (nF (va_up fi i (sgo fr nb (fi i)))))), (a_secondIn, .inl (cI, 300, .inl (nF si))), (qd, .inr (9, [f0, f1, .ref a_from, .int (nI nb), f4, .ref a_firstIn, .ref a_secondIn, .int (nI ng), f8, f9, f10, f11, f12, f13, f14, f15, f16, f17, f18])), (a_from, .inl (cI, 8000, .inl (xF fr)))] H := hP
      have hD : va_D A [(a_firstIn, .inl (cI, 300, .inl (nF (va_up fi i (sgo fr nb (fi i)))))), (a_secondIn, .inl (cI, 300, .inl (nF si))), (qd, .inr (9, [f0, f1, .ref a_from, .int (nI nb), f4, .ref a_firstIn, .ref a_secondIn, .int (nI ng), f8, f9, f10, f11, f12, f13, f14, f15, f16, f17, f18])), (a_from, .inl (cI, 8000, .inl (xF fr)))] := hD
      refine lv_aload_n hx hb d_Board_findSignals_26 rfl (lv_at hl 1 rfl) ?_
      refine va_get (D := (dC, dI)) (ci := 9) (v := .ref a_secondIn) (C := R_Board) (T := F_Board) (N := 19) hx hb hts i_Board hown hK hP 2 rfl rfl 6 (by decide) (hts _ k_379) (fun _ h9 => h9) rfl d_Board_findSignals_27 ?_
      refine lv_iload_n hx hb d_Board_findSignals_30 rfl (lv_at hl 0 rfl) ?_
      refine lv_aload_n hx hb d_Board_findSignals_31 rfl (lv_at hl 1 rfl) ?_
      refine lv_aload_n hx hb d_Board_findSignals_32 rfl (lv_at hl 1 rfl) ?_
      refine va_get (D := (dC, dI)) (ci := 9) (v := .ref a_secondIn) (C := R_Board) (T := F_Board) (N := 19) hx hb hts i_Board hown hK hP 2 rfl rfl 6 (by decide) (hts _ k_379) (fun _ h9 => h9) rfl d_Board_findSignals_33 ?_
      refine lv_iload_n hx hb d_Board_findSignals_36 rfl (lv_at hl 0 rfl) ?_
      refine nv_iald hx hb hK hP 1 1 rfl rfl (by omega) (by decide) d_Board_findSignals_37 ?_
      refine wc_i (wc := [(qd, .inr (9, [f0, f1, .ref a_from, .int (nI nb), f4, .ref a_firstIn, .ref a_secondIn, .int (nI ng), f8, f9, f10, f11, f12, f13, f14, f15, f16, f17, f18])), (a_from, .inl (cI, 8000, .inl (xF fr)))]) (wr := [(a_firstIn, .inl (cI, 300, .inl (nF (va_up fi i (sgo fr nb (fi i)))))), (a_secondIn, .inl (cI, 300, .inl (nF si)))]) (va_runV (As := [.int (nI (si i))]) (rest := [.int (nI i), .ref a_secondIn]) ⟨hx, hb, hml, hown, hts⟩ (c_Board_signalOf l dC dI cB cI cL cZ cC cO fr nb (si i) _ hnb hfr hfs (h_si i)) (cwV 1 hts (good_V k_805 k_807 s_Board_signalOf k_18 k_808) rfl rfl rfl (by decide +kernel) ⟨Nat.le_of_ble_eq_true rfl, Nat.le_of_ble_eq_true rfl⟩) (wc_preV (k0 := 2) (ci := 9) (r := (R_Board, F_Board, 19)) hK hP hD hS hA hF [2, 3] (by decide) rfl rfl rfl) rfl rfl hl.1 rfl (lv_room (Nat.le_of_ble_eq_true rfl)) d_Board_findSignals_38 ⟨Nat.le_of_ble_eq_true rfl, Nat.le_of_ble_eq_true rfl⟩) hP hD hS hA [2, 3] [0, 1] rfl rfl (by decide) (by decide) (fun r_5 u H locs w_4 hP hD hS => ?_)
      have hP : va_P (dC, dI) cl [(a_firstIn, .inl (cI, 300, .inl (nF (va_up fi i (sgo fr nb (fi i)))))), (a_secondIn, .inl (cI, 300, .inl (nF si))), (qd, .inr (9, [f0, f1, .ref a_from, .int (nI nb), f4, .ref a_firstIn, .ref a_secondIn, .int (nI ng), f8, f9, f10, f11, f12, f13, f14, f15, f16, f17, f18])), (a_from, .inl (cI, 8000, .inl (xF fr)))] H := hP
      have hD : va_D A [(a_firstIn, .inl (cI, 300, .inl (nF (va_up fi i (sgo fr nb (fi i)))))), (a_secondIn, .inl (cI, 300, .inl (nF si))), (qd, .inr (9, [f0, f1, .ref a_from, .int (nI nb), f4, .ref a_firstIn, .ref a_secondIn, .int (nI ng), f8, f9, f10, f11, f12, f13, f14, f15, f16, f17, f18])), (a_from, .inl (cI, 8000, .inl (xF fr)))] := hD
      subst w_4
      refine nv_iastN (x := sgo fr nb (si i)) hx hb hK hP hD hS 1 1 rfl rfl (by omega) (by decide) d_Board_findSignals_41 (fun H locs hP hD hS => ?_)
      have hP : va_P (dC, dI) cl [(a_firstIn, .inl (cI, 300, .inl (nF (va_up fi i (sgo fr nb (fi i)))))), (a_secondIn, .inl (cI, 300, .inl (nF (va_up si i (sgo fr nb (si i)))))), (qd, .inr (9, [f0, f1, .ref a_from, .int (nI nb), f4, .ref a_firstIn, .ref a_secondIn, .int (nI ng), f8, f9, f10, f11, f12, f13, f14, f15, f16, f17, f18])), (a_from, .inl (cI, 8000, .inl (xF fr)))] H := hP
      have hD : va_D A [(a_firstIn, .inl (cI, 300, .inl (nF (va_up fi i (sgo fr nb (fi i)))))), (a_secondIn, .inl (cI, 300, .inl (nF (va_up si i (sgo fr nb (si i)))))), (qd, .inr (9, [f0, f1, .ref a_from, .int (nI nb), f4, .ref a_firstIn, .ref a_secondIn, .int (nI ng), f8, f9, f10, f11, f12, f13, f14, f15, f16, f17, f18])), (a_from, .inl (cI, 8000, .inl (xF fr)))] := hD
      refine lv_iinc (v := nI (i + 1)) (lv' := [(1, .int (nI (i + 1))), (0, .ref qd)]) hx hb d_Board_findSignals_42 hl (k := 0) rfl (nI_1 _) (by decide) rfl (fun ls hl => ?_)
      refine lv_goto (tgt := 2) hx hb d_Board_findSignals_45 (by decide) ?_
      exact ih (i + 1) _ _ H locs ls (by omega) (by omega) (fun x9 => by unfold va_up; split; exact Nat.lt_of_lt_of_le (sgo_lt (n := 430) (by decide) hfs _ _) (by decide); exact h_fi _) (fun x9 => by unfold va_up; split; exact Nat.lt_of_lt_of_le (sgo_lt (n := 430) (by decide) hfs _ _) (by decide); exact h_si _) (by rw [← hr, fsg_u fr nb ng i, if_pos (by omega)]) (hP.sub [2, 3, 0, 1] rfl) (hD.sub [2, 3, 0, 1] (by decide) rfl) hS (lv_sub hl [0, 1] rfl)
set_option maxHeartbeats 4000000 in
set_option maxRecDepth 100000 in
/-- findSignals() -/
theorem c_Board_findSignals (l : Launch) (dC : Nat → ClassId) (dI : Nat → Nat → Nat) (cB cI cL cZ cC cO : ClassId) {qd a_from a_firstIn a_secondIn : Nat}{f0 f1 f4 f8 f9 f10 f11 f12 f13 f14 f15 f16 f17 f18 : Value} (fr : Nat → Nat ⊕ Nat) (nb ng : Nat) (fi si : Nat → Nat) (sz : Nat) (hnb : nb ≤ 8000) (hfr : ∀ i b, fr i = .inl b → b < 8000) (hfs : ∀ i s, fr i = .inr s → s < 430) (hng : ng ≤ 300) (h_fi : ∀ x, fi x < 8000) (h_si : ∀ x, si x < 8000) : Met l y_Board_findSignals w_Board_findSignals ({ frames := 1, cells := 0, slots := 0, locals := 30 }) (va_Pc [.ref qd] (wB (dC, dI) cl [(cB, .byte), (cI, .int), (cL, .long), (cZ, .boolean), (cC, .char), (cO, .object "java/lang/Object")] sz [(qd, .inr (9, [f0, f1, .ref a_from, .int (nI nb), f4, .ref a_firstIn, .ref a_secondIn, .int (nI ng), f8, f9, f10, f11, f12, f13, f14, f15, f16, f17, f18])), (a_from, .inl (cI, 8000, .inl (xF fr))), (a_firstIn, .inl (cI, 300, .inl (nF fi))), (a_secondIn, .inl (cI, 300, .inl (nF si)))])) (va_Qv (fun (u : (Nat → Nat) × (Nat → Nat)) => u = (fsg fr nb ng 0 (fi, si))) (fun u t => wA (dC, dI) cl [(cB, .byte), (cI, .int), (cL, .long), (cZ, .boolean), (cC, .char), (cO, .object "java/lang/Object")] (va_A [(qd, .inr (9, [f0, f1, .ref a_from, .int (nI nb), f4, .ref a_firstIn, .ref a_secondIn, .int (nI ng), f8, f9, f10, f11, f12, f13, f14, f15, f16, f17, f18])), (a_from, .inl (cI, 8000, .inl (xF fr))), (a_firstIn, .inl (cI, 300, .inl (nF fi))), (a_secondIn, .inl (cI, 300, .inl (nF si)))] sz) [(qd, .inr (9, [f0, f1, .ref a_from, .int (nI nb), f4, .ref a_firstIn, .ref a_secondIn, .int (nI ng), f8, f9, f10, f11, f12, f13, f14, f15, f16, f17, f18])), (a_from, .inl (cI, 8000, .inl (xF fr))), (a_firstIn, .inl (cI, 300, .inl (nF u.1))), (a_secondIn, .inl (cI, 300, .inl (nF u.2)))] t) (va_A [(qd, .inr (9, [f0, f1, .ref a_from, .int (nI nb), f4, .ref a_firstIn, .ref a_secondIn, .int (nI ng), f8, f9, f10, f11, f12, f13, f14, f15, f16, f17, f18])), (a_from, .inl (cI, 8000, .inl (xF fr))), (a_firstIn, .inl (cI, 300, .inl (nF fi))), (a_secondIn, .inl (cI, 300, .inl (nF si)))] sz)) 0 0 (va_A [(qd, .inr (9, [f0, f1, .ref a_from, .int (nI nb), f4, .ref a_firstIn, .ref a_secondIn, .int (nI ng), f8, f9, f10, f11, f12, f13, f14, f15, f16, f17, f18])), (a_from, .inl (cI, 8000, .inl (xF fr))), (a_firstIn, .inl (cI, 300, .inl (nF fi))), (a_secondIn, .inl (cI, 300, .inl (nF si)))] sz) := by
  refine Met.ofW (cc := b_Board_findSignals) (maxL := 2) (ret := none) (by decide) rfl ?_
  intro p e s m args below meth c s₁ B hml hv
  obtain ⟨rfl, hsz, hP, hK, hD0, hF⟩ := hv
  have hx := B.exec
  have hb := B.bytes
  have hr := B.returns
  have hts := atoms_spec (ws := w_Board_findSignals) B.pre
  have hts : ∀ w ∈ tb, w.before _ s = true := fun w h => hts w (List.mem_cons_of_mem _ h)
  have hown : s.vm.findClass R_Board = some m.cls := findClass_of_methodNamed B.named
  have hlocks := B.notSynchronized
  subst hsz
  have hD := hD0.self (sz := s.heap.size)
  generalize hAe : va_A [(qd, .inr (9, [f0, f1, .ref a_from, .int (nI nb), f4, .ref a_firstIn, .ref a_secondIn, .int (nI ng), f8, f9, f10, f11, f12, f13, f14, f15, f16, f17, f18])), (a_from, .inl (cI, 8000, .inl (xF fr))), (a_firstIn, .inl (cI, 300, .inl (nF fi))), (a_secondIn, .inl (cI, 300, .inl (nF si)))] s.heap.size = A at hD hF ⊢
  have hA : ∀ q : Nat, s.heap.size ≤ q → A q := fun q h => by rw [← hAe]; exact Or.inr h
  have hS : va_S A s.heap s.heap [] := va_S.rf
  have hP : va_P (dC, dI) cl [(qd, .inr (9, [f0, f1, .ref a_from, .int (nI nb), f4, .ref a_firstIn, .ref a_secondIn, .int (nI ng), f8, f9, f10, f11, f12, f13, f14, f15, f16, f17, f18])), (a_from, .inl (cI, 8000, .inl (xF fr))), (a_firstIn, .inl (cI, 300, .inl (nF fi))), (a_secondIn, .inl (cI, 300, .inl (nF si)))] s.heap := hP
  have hl := lv_entry ([.ref qd]) (n := 2) (Nat.le_of_ble_eq_true rfl)
  rw [lg_entry_eq]
  generalize (lg_sl ([.ref qd]) ++ List.replicate (2 - (lg_sl ([.ref qd])).length) Slot.unset).toArray = ls at hl ⊢
  have hl : lv_has ls 2 [(0, .ref qd)] := hl
  refine lv_iconst (v := nI 0) hx hb d_Board_findSignals_0 (by decide) ?_
  refine lv_istore_n (lv' := [(1, .int (nI 0)), (0, .ref qd)]) hx hb d_Board_findSignals_1 rfl hl (by decide) rfl (fun ls hl => ?_)
  refine lp_Board_findSignals (F := (fsg fr nb ng 0 (fi, si))) hnb hfr hfs hng hx hb hml hown hts hA hF hK (fun H locs ls hP hD hS hl => ?_) (ng + 1) 0 fi si _ _ ls (by omega) (by omega) h_fi h_si rfl hP hD hS (lv_sub hl [0, 1] rfl)
  exact wr_v hx hb hr hlocks (fsg fr nb ng 0 (fi, si)) rfl hK hP hD hS d_Board_findSignals_48
theorem d_Board_append_0 : decode b_Board_append 0 = .ok (.aload_n 0, 1) := by decide +kernel
theorem d_Board_append_1 : decode b_Board_append 1 = .ok (.getfield 56, 3) := by decide +kernel
theorem d_Board_append_4 : decode b_Board_append 4 = .ok (.aload_n 0, 1) := by decide +kernel
theorem d_Board_append_5 : decode b_Board_append 5 = .ok (.getfield 59, 3) := by decide +kernel
theorem d_Board_append_8 : decode b_Board_append 8 = .ok (.iload_n 1, 1) := by decide +kernel
theorem d_Board_append_9 : decode b_Board_append 9 = .ok (.iastore, 1) := by decide +kernel
theorem d_Board_append_10 : decode b_Board_append 10 = .ok (.aload_n 0, 1) := by decide +kernel
theorem d_Board_append_11 : decode b_Board_append 11 = .ok (.dup, 1) := by decide +kernel
theorem d_Board_append_12 : decode b_Board_append 12 = .ok (.getfield 59, 3) := by decide +kernel
theorem d_Board_append_15 : decode b_Board_append 15 = .ok (.iconst 1, 1) := by decide +kernel
theorem d_Board_append_16 : decode b_Board_append 16 = .ok (.iadd, 1) := by decide +kernel
theorem d_Board_append_17 : decode b_Board_append 17 = .ok (.putfield 59, 3) := by decide +kernel
theorem d_Board_append_20 : decode b_Board_append 20 = .ok (.aload_n 0, 1) := by decide +kernel
theorem d_Board_append_21 : decode b_Board_append 21 = .ok (.getfield 50, 3) := by decide +kernel
theorem d_Board_append_24 : decode b_Board_append 24 = .ok (.aload_n 0, 1) := by decide +kernel
theorem d_Board_append_25 : decode b_Board_append 25 = .ok (.getfield 44, 3) := by decide +kernel
theorem d_Board_append_28 : decode b_Board_append 28 = .ok (.iload_n 1, 1) := by decide +kernel
theorem d_Board_append_29 : decode b_Board_append 29 = .ok (.iadd, 1) := by decide +kernel
theorem d_Board_append_30 : decode b_Board_append 30 = .ok (.iload_n 2, 1) := by decide +kernel
theorem d_Board_append_31 : decode b_Board_append 31 = .ok (.iastore, 1) := by decide +kernel
theorem d_Board_append_32 : decode b_Board_append 32 = .ok (.aload_n 0, 1) := by decide +kernel
theorem d_Board_append_33 : decode b_Board_append 33 = .ok (.aload_n 0, 1) := by decide +kernel
theorem d_Board_append_34 : decode b_Board_append 34 = .ok (.getfield 53, 3) := by decide +kernel
theorem d_Board_append_37 : decode b_Board_append 37 = .ok (.iload_n 2, 1) := by decide +kernel
theorem d_Board_append_38 : decode b_Board_append 38 = .ok (.invokestatic 180, 3) := by decide +kernel
theorem d_Board_append_41 : decode b_Board_append 41 = .ok (.putfield 53, 3) := by decide +kernel
theorem d_Board_append_44 : decode b_Board_append 44 = .ok (.return_, 1) := by decide +kernel
set_option maxHeartbeats 4000000 in
set_option maxRecDepth 100000 in
/-- append(nand, level) -/
theorem c_Board_append (l : Launch) (dC : Nat → ClassId) (dI : Nat → Nat → Nat) (cB cI cL cZ cC cO : ClassId) {qd a_order a_level : Nat}{f0 f1 f2 f3 f4 f5 f6 f7 f8 f10 f15 f16 f17 f18 : Value} (od lev : Nat → Nat) (fg no dp x v : Nat) (sz : Nat) (hfg : fg ≤ 130) (hno : no < 300) (hx0 : x < 300) (hv : v < 1000) (hdp : dp < 1000) : Met l y_Board_append w_Board_append ({ frames := 1, cells := 0, slots := 0, locals := 30 }) (va_Pc [.ref qd, .int (nI x), .int (nI v)] (wB (dC, dI) cl [(cB, .byte), (cI, .int), (cL, .long), (cZ, .boolean), (cC, .char), (cO, .object "java/lang/Object")] sz [(qd, .inr (9, [f0, f1, f2, f3, f4, f5, f6, f7, f8, .int (nI fg), f10, .ref a_level, .int (nI dp), .ref a_order, .int (nI no), f15, f16, f17, f18])), (a_order, .inl (cI, 300, .inl (nF od))), (a_level, .inl (cI, 430, .inl (zF lev)))])) (va_Qv (fun (u : Unit) => True) (fun _ t => wA (dC, dI) cl [(cB, .byte), (cI, .int), (cL, .long), (cZ, .boolean), (cC, .char), (cO, .object "java/lang/Object")] (va_A [(qd, .inr (9, [f0, f1, f2, f3, f4, f5, f6, f7, f8, .int (nI fg), f10, .ref a_level, .int (nI dp), .ref a_order, .int (nI no), f15, f16, f17, f18])), (a_order, .inl (cI, 300, .inl (nF od))), (a_level, .inl (cI, 430, .inl (zF lev)))] sz) [(qd, .inr (9, [f0, f1, f2, f3, f4, f5, f6, f7, f8, .int (nI fg), f10, .ref a_level, .int (nI (max dp v)), .ref a_order, .int (nI (no + 1)), f15, f16, f17, f18])), (a_order, .inl (cI, 300, .inl (nF (va_up od no x)))), (a_level, .inl (cI, 430, .inl (zF (va_up lev (fg + x) (v + 2)))))] t) (va_A [(qd, .inr (9, [f0, f1, f2, f3, f4, f5, f6, f7, f8, .int (nI fg), f10, .ref a_level, .int (nI dp), .ref a_order, .int (nI no), f15, f16, f17, f18])), (a_order, .inl (cI, 300, .inl (nF od))), (a_level, .inl (cI, 430, .inl (zF lev)))] sz)) 0 0 (va_A [(qd, .inr (9, [f0, f1, f2, f3, f4, f5, f6, f7, f8, .int (nI fg), f10, .ref a_level, .int (nI dp), .ref a_order, .int (nI no), f15, f16, f17, f18])), (a_order, .inl (cI, 300, .inl (nF od))), (a_level, .inl (cI, 430, .inl (zF lev)))] sz) := by
  refine Met.ofW (cc := b_Board_append) (maxL := 3) (ret := none) (by decide) rfl ?_
  intro p e s m args below meth c s₁ B hml hv
  obtain ⟨rfl, hsz, hP, hK, hD0, hF⟩ := hv
  have hx := B.exec
  have hb := B.bytes
  have hr := B.returns
  have hts := atoms_spec (ws := w_Board_append) B.pre
  have hts : ∀ w ∈ tb, w.before _ s = true := fun w h => hts w (List.mem_cons_of_mem _ h)
  have hown : s.vm.findClass R_Board = some m.cls := findClass_of_methodNamed B.named
  have hlocks := B.notSynchronized
  subst hsz
  have hD := hD0.self (sz := s.heap.size)
  generalize hAe : va_A [(qd, .inr (9, [f0, f1, f2, f3, f4, f5, f6, f7, f8, .int (nI fg), f10, .ref a_level, .int (nI dp), .ref a_order, .int (nI no), f15, f16, f17, f18])), (a_order, .inl (cI, 300, .inl (nF od))), (a_level, .inl (cI, 430, .inl (zF lev)))] s.heap.size = A at hD hF ⊢
  have hA : ∀ q : Nat, s.heap.size ≤ q → A q := fun q h => by rw [← hAe]; exact Or.inr h
  have hS : va_S A s.heap s.heap [] := va_S.rf
  have hP : va_P (dC, dI) cl [(qd, .inr (9, [f0, f1, f2, f3, f4, f5, f6, f7, f8, .int (nI fg), f10, .ref a_level, .int (nI dp), .ref a_order, .int (nI no), f15, f16, f17, f18])), (a_order, .inl (cI, 300, .inl (nF od))), (a_level, .inl (cI, 430, .inl (zF lev)))] s.heap := hP
  have hl := lv_entry ([.ref qd, .int (nI x), .int (nI v)]) (n := 3) (Nat.le_of_ble_eq_true rfl)
  rw [lg_entry_eq]
  generalize (lg_sl ([.ref qd, .int (nI x), .int (nI v)]) ++ List.replicate (3 - (lg_sl ([.ref qd, .int (nI x), .int (nI v)])).length) Slot.unset).toArray = ls at hl ⊢
  have hl : lv_has ls 3 [(0, .ref qd), (1, .int (nI x)), (2, .int (nI v))] := hl
  refine lv_aload_n hx hb d_Board_append_0 rfl (lv_at hl 0 rfl) ?_
  refine va_get (D := (dC, dI)) (ci := 9) (v := .ref a_order) (C := R_Board) (T := F_Board) (N := 19) hx hb hts i_Board hown hK hP 0 rfl rfl 13 (by decide) (hts _ k_386) (fun _ h9 => h9) rfl d_Board_append_1 ?_
  refine lv_aload_n hx hb d_Board_append_4 rfl (lv_at hl 0 rfl) ?_
  refine va_get (D := (dC, dI)) (ci := 9) (v := .int (nI no)) (C := R_Board) (T := F_Board) (N := 19) hx hb hts i_Board hown hK hP 0 rfl rfl 14 (by decide) (hts _ k_387) (fun _ h9 => h9) rfl d_Board_append_5 ?_
  refine lv_iload_n hx hb d_Board_append_8 rfl (lv_at hl 1 rfl) ?_
  refine nv_iastN (x := x) hx hb hK hP hD hS 1 1 rfl rfl (by omega) (by decide) d_Board_append_9 (fun H locs hP hD hS => ?_)
  have hP : va_P (dC, dI) cl [(qd, .inr (9, [f0, f1, f2, f3, f4, f5, f6, f7, f8, .int (nI fg), f10, .ref a_level, .int (nI dp), .ref a_order, .int (nI no), f15, f16, f17, f18])), (a_order, .inl (cI, 300, .inl (nF (va_up od no x)))), (a_level, .inl (cI, 430, .inl (zF lev)))] H := hP
  have hD : va_D A [(qd, .inr (9, [f0, f1, f2, f3, f4, f5, f6, f7, f8, .int (nI fg), f10, .ref a_level, .int (nI dp), .ref a_order, .int (nI no), f15, f16, f17, f18])), (a_order, .inl (cI, 300, .inl (nF (va_up od no x)))), (a_level, .inl (cI, 430, .inl (zF lev)))] := hD
  refine lv_aload_n hx hb d_Board_append_10 rfl (lv_at hl 0 rfl) ?_
  refine lv_dup hx hb d_Board_append_11 rfl ?_
  refine va_get (D := (dC, dI)) (ci := 9) (v := .int (nI no)) (C := R_Board) (T := F_Board) (N := 19) hx hb hts i_Board hown hK hP 0 rfl rfl 14 (by decide) (hts _ k_387) (fun _ h9 => h9) rfl d_Board_append_12 ?_
  refine lv_iconst (v := nI 1) hx hb d_Board_append_15 (by decide) ?_
  refine nv_iadd hx hb d_Board_append_16 ?_
  refine va_put (D := (dC, dI)) (ci := 9) (v := .int (nI (no + 1))) (ty := .int) (C := R_Board) (T := F_Board) (N := 19) hx hb hts i_Board t_Board t_Board_ok n_Board hown hK hP hD hS 0 rfl rfl 14 (by decide) (hts _ k_387) (fun _ h9 => h9) rfl (by decide +kernel) rfl rfl (Nat.le_of_ble_eq_true rfl) d_Board_append_17 (fun H locs hP hD hS => ?_)
  have hP : va_P (dC, dI) cl [(qd, .inr (9, [f0, f1, f2, f3, f4, f5, f6, f7, f8, .int (nI fg), f10, .ref a_level, .int (nI dp), .ref a_order, .int (nI (no + 1)), f15, f16, f17, f18])), (a_order, .inl (cI, 300, .inl (nF (va_up od no x)))), (a_level, .inl (cI, 430, .inl (zF lev)))] H := hP
  have hD : va_D A [(qd, .inr (9, [f0, f1, f2, f3, f4, f5, f6, f7, f8, .int (nI fg), f10, .ref a_level, .int (nI dp), .ref a_order, .int (nI (no + 1)), f15, f16, f17, f18])), (a_order, .inl (cI, 300, .inl (nF (va_up od no x)))), (a_level, .inl (cI, 430, .inl (zF lev)))] := hD
  refine lv_aload_n hx hb d_Board_append_20 rfl (lv_at hl 0 rfl) ?_
  refine va_get (D := (dC, dI)) (ci := 9) (v := .ref a_level) (C := R_Board) (T := F_Board) (N := 19) hx hb hts i_Board hown hK hP 0 rfl rfl 11 (by decide) (hts _ k_384) (fun _ h9 => h9) rfl d_Board_append_21 ?_
  refine lv_aload_n hx hb d_Board_append_24 rfl (lv_at hl 0 rfl) ?_
  refine va_get (D := (dC, dI)) (ci := 9) (v := .int (nI fg)) (C := R_Board) (T := F_Board) (N := 19) hx hb hts i_Board hown hK hP 0 rfl rfl 9 (by decide) (hts _ k_382) (fun _ h9 => h9) rfl d_Board_append_25 ?_
  refine lv_iload_n hx hb d_Board_append_28 rfl (lv_at hl 1 rfl) ?_
  refine nv_iadd hx hb d_Board_append_29 ?_
  refine lv_iload_n hx hb d_Board_append_30 rfl (lv_at hl 2 rfl) ?_
  refine nv_iastC (x := v + 2) hx hb hK hP hD hS 2 1 rfl rfl (by omega) (by decide) d_Board_append_31 (fun H locs hP hD hS => ?_)
  have hP : va_P (dC, dI) cl [(qd, .inr (9, [f0, f1, f2, f3, f4, f5, f6, f7, f8, .int (nI fg), f10, .ref a_level, .int (nI dp), .ref a_order, .int (nI (no + 1)), f15, f16, f17, f18])), (a_order, .inl (cI, 300, .inl (nF (va_up od no x)))), (a_level, .inl (cI, 430, .inl (zF (va_up lev (fg + x) (v + 2)))))] H := hP
  have hD : va_D A [(qd, .inr (9, [f0, f1, f2, f3, f4, f5, f6, f7, f8, .int (nI fg), f10, .ref a_level, .int (nI dp), .ref a_order, .int (nI (no + 1)), f15, f16, f17, f18])), (a_order, .inl (cI, 300, .inl (nF (va_up od no x)))), (a_level, .inl (cI, 430, .inl (zF (va_up lev (fg + x) (v + 2)))))] := hD
  refine lv_aload_n hx hb d_Board_append_32 rfl (lv_at hl 0 rfl) ?_
  refine lv_aload_n hx hb d_Board_append_33 rfl (lv_at hl 0 rfl) ?_
  refine va_get (D := (dC, dI)) (ci := 9) (v := .int (nI dp)) (C := R_Board) (T := F_Board) (N := 19) hx hb hts i_Board hown hK hP 0 rfl rfl 12 (by decide) (hts _ k_385) (fun _ h9 => h9) rfl d_Board_append_34 ?_
  refine lv_iload_n hx hb d_Board_append_37 rfl (lv_at hl 2 rfl) ?_
  refine va_mmax hx hb (by rw [hml]; exact hl.1.symm) hown (hts _ k_817) (hts _ k_274) (hts _ k_13) (hts _ k_275) (Nat.le_of_ble_eq_true rfl) (Nat.le_of_ble_eq_true rfl) (Nat.le_of_ble_eq_true rfl) (Nat.le_of_ble_eq_true rfl) d_Board_append_38 ?_
  rw [show (if nI dp < nI v then nI v else nI dp) = nI (max dp v) from nI_max (by omega) (by omega)]
  refine va_put (D := (dC, dI)) (ci := 9) (v := .int (nI (max dp v))) (ty := .int) (C := R_Board) (T := F_Board) (N := 19) hx hb hts i_Board t_Board t_Board_ok n_Board hown hK hP hD hS 0 rfl rfl 12 (by decide) (hts _ k_385) (fun _ h9 => h9) rfl (by decide +kernel) rfl rfl (Nat.le_of_ble_eq_true rfl) d_Board_append_41 (fun H locs hP hD hS => ?_)
  have hP : va_P (dC, dI) cl [(qd, .inr (9, [f0, f1, f2, f3, f4, f5, f6, f7, f8, .int (nI fg), f10, .ref a_level, .int (nI (max dp v)), .ref a_order, .int (nI (no + 1)), f15, f16, f17, f18])), (a_order, .inl (cI, 300, .inl (nF (va_up od no x)))), (a_level, .inl (cI, 430, .inl (zF (va_up lev (fg + x) (v + 2)))))] H := hP
  have hD : va_D A [(qd, .inr (9, [f0, f1, f2, f3, f4, f5, f6, f7, f8, .int (nI fg), f10, .ref a_level, .int (nI (max dp v)), .ref a_order, .int (nI (no + 1)), f15, f16, f17, f18])), (a_order, .inl (cI, 300, .inl (nF (va_up od no x)))), (a_level, .inl (cI, 430, .inl (zF (va_up lev (fg + x) (v + 2)))))] := hD
  exact wr_v hx hb hr hlocks () trivial hK hP hD hS d_Board_append_44
theorem d_Board_arrange_0 : decode b_Board_arrange 0 = .ok (.aload_n 0, 1) := by decide +kernel
theorem d_Board_arrange_1 : decode b_Board_arrange 1 = .ok (.getfield 62, 3) := by decide +kernel
theorem d_Board_arrange_4 : decode b_Board_arrange 4 = .ok (.iconst 0, 1) := by decide +kernel
theorem d_Board_arrange_5 : decode b_Board_arrange 5 = .ok (.iload_n 1, 1) := by decide +kernel
theorem d_Board_arrange_6 : decode b_Board_arrange 6 = .ok (.iastore, 1) := by decide +kernel
theorem d_Board_arrange_7 : decode b_Board_arrange 7 = .ok (.aload_n 0, 1) := by decide +kernel
theorem d_Board_arrange_8 : decode b_Board_arrange 8 = .ok (.getfield 50, 3) := by decide +kernel
theorem d_Board_arrange_11 : decode b_Board_arrange 11 = .ok (.aload_n 0, 1) := by decide +kernel
theorem d_Board_arrange_12 : decode b_Board_arrange 12 = .ok (.getfield 44, 3) := by decide +kernel
theorem d_Board_arrange_15 : decode b_Board_arrange 15 = .ok (.iload_n 1, 1) := by decide +kernel
theorem d_Board_arrange_16 : decode b_Board_arrange 16 = .ok (.iadd, 1) := by decide +kernel
theorem d_Board_arrange_17 : decode b_Board_arrange 17 = .ok (.bipush (-2), 2) := by decide +kernel
theorem d_Board_arrange_19 : decode b_Board_arrange 19 = .ok (.iastore, 1) := by decide +kernel
theorem d_Board_arrange_20 : decode b_Board_arrange 20 = .ok (.iconst 1, 1) := by decide +kernel
theorem d_Board_arrange_21 : decode b_Board_arrange 21 = .ok (.istore_n 2, 1) := by decide +kernel
theorem d_Board_arrange_22 : decode b_Board_arrange 22 = .ok (.iconst 0, 1) := by decide +kernel
theorem d_Board_arrange_23 : decode b_Board_arrange 23 = .ok (.istore_n 3, 1) := by decide +kernel
theorem d_Board_arrange_24 : decode b_Board_arrange 24 = .ok (.iload_n 3, 1) := by decide +kernel
theorem d_Board_arrange_25 : decode b_Board_arrange 25 = .ok (.sipush 900, 3) := by decide +kernel
theorem d_Board_arrange_28 : decode b_Board_arrange 28 = .ok (.if_icmp .ge 150, 3) := by decide +kernel
theorem d_Board_arrange_31 : decode b_Board_arrange 31 = .ok (.iload_n 2, 1) := by decide +kernel
theorem d_Board_arrange_32 : decode b_Board_arrange 32 = .ok (.ifCond .le 146, 3) := by decide +kernel
theorem d_Board_arrange_35 : decode b_Board_arrange 35 = .ok (.aload_n 0, 1) := by decide +kernel
theorem d_Board_arrange_36 : decode b_Board_arrange 36 = .ok (.getfield 62, 3) := by decide +kernel
theorem d_Board_arrange_39 : decode b_Board_arrange 39 = .ok (.iload_n 2, 1) := by decide +kernel
theorem d_Board_arrange_40 : decode b_Board_arrange 40 = .ok (.iconst 1, 1) := by decide +kernel
theorem d_Board_arrange_41 : decode b_Board_arrange 41 = .ok (.isub, 1) := by decide +kernel
theorem d_Board_arrange_42 : decode b_Board_arrange 42 = .ok (.iaload, 1) := by decide +kernel
theorem d_Board_arrange_43 : decode b_Board_arrange 43 = .ok (.istore 4, 2) := by decide +kernel
theorem d_Board_arrange_45 : decode b_Board_arrange 45 = .ok (.aload_n 0, 1) := by decide +kernel
theorem d_Board_arrange_46 : decode b_Board_arrange 46 = .ok (.getfield 50, 3) := by decide +kernel
theorem d_Board_arrange_49 : decode b_Board_arrange 49 = .ok (.aload_n 0, 1) := by decide +kernel
theorem d_Board_arrange_50 : decode b_Board_arrange 50 = .ok (.getfield 32, 3) := by decide +kernel
theorem d_Board_arrange_53 : decode b_Board_arrange 53 = .ok (.iload 4, 2) := by decide +kernel
theorem d_Board_arrange_55 : decode b_Board_arrange 55 = .ok (.iaload, 1) := by decide +kernel
theorem d_Board_arrange_56 : decode b_Board_arrange 56 = .ok (.iaload, 1) := by decide +kernel
theorem d_Board_arrange_57 : decode b_Board_arrange 57 = .ok (.istore 5, 2) := by decide +kernel
theorem d_Board_arrange_59 : decode b_Board_arrange 59 = .ok (.aload_n 0, 1) := by decide +kernel
theorem d_Board_arrange_60 : decode b_Board_arrange 60 = .ok (.getfield 50, 3) := by decide +kernel
theorem d_Board_arrange_63 : decode b_Board_arrange 63 = .ok (.aload_n 0, 1) := by decide +kernel
theorem d_Board_arrange_64 : decode b_Board_arrange 64 = .ok (.getfield 35, 3) := by decide +kernel
theorem d_Board_arrange_67 : decode b_Board_arrange 67 = .ok (.iload 4, 2) := by decide +kernel
theorem d_Board_arrange_69 : decode b_Board_arrange 69 = .ok (.iaload, 1) := by decide +kernel
theorem d_Board_arrange_70 : decode b_Board_arrange 70 = .ok (.iaload, 1) := by decide +kernel
theorem d_Board_arrange_71 : decode b_Board_arrange 71 = .ok (.istore 6, 2) := by decide +kernel
theorem d_Board_arrange_73 : decode b_Board_arrange 73 = .ok (.iload 5, 2) := by decide +kernel
theorem d_Board_arrange_75 : decode b_Board_arrange 75 = .ok (.bipush (-2), 2) := by decide +kernel
theorem d_Board_arrange_77 : decode b_Board_arrange 77 = .ok (.if_icmp .eq 10, 3) := by decide +kernel
theorem d_Board_arrange_80 : decode b_Board_arrange 80 = .ok (.iload 6, 2) := by decide +kernel
theorem d_Board_arrange_82 : decode b_Board_arrange 82 = .ok (.bipush (-2), 2) := by decide +kernel
theorem d_Board_arrange_84 : decode b_Board_arrange 84 = .ok (.if_icmp .ne 5, 3) := by decide +kernel
theorem d_Board_arrange_87 : decode b_Board_arrange 87 = .ok (.iconst 0, 1) := by decide +kernel
theorem d_Board_arrange_88 : decode b_Board_arrange 88 = .ok (.ireturn, 1) := by decide +kernel
theorem d_Board_arrange_89 : decode b_Board_arrange 89 = .ok (.iload 5, 2) := by decide +kernel
theorem d_Board_arrange_91 : decode b_Board_arrange 91 = .ok (.iconst (-1), 1) := by decide +kernel
theorem d_Board_arrange_92 : decode b_Board_arrange 92 = .ok (.if_icmp .eq 9, 3) := by decide +kernel
theorem d_Board_arrange_95 : decode b_Board_arrange 95 = .ok (.iload 6, 2) := by decide +kernel
theorem d_Board_arrange_97 : decode b_Board_arrange 97 = .ok (.iconst (-1), 1) := by decide +kernel
theorem d_Board_arrange_98 : decode b_Board_arrange 98 = .ok (.if_icmp .ne 56, 3) := by decide +kernel
theorem d_Board_arrange_101 : decode b_Board_arrange 101 = .ok (.iload 5, 2) := by decide +kernel
theorem d_Board_arrange_103 : decode b_Board_arrange 103 = .ok (.iconst (-1), 1) := by decide +kernel
theorem d_Board_arrange_104 : decode b_Board_arrange 104 = .ok (.if_icmp .ne 13, 3) := by decide +kernel
theorem d_Board_arrange_107 : decode b_Board_arrange 107 = .ok (.aload_n 0, 1) := by decide +kernel
theorem d_Board_arrange_108 : decode b_Board_arrange 108 = .ok (.getfield 32, 3) := by decide +kernel
theorem d_Board_arrange_111 : decode b_Board_arrange 111 = .ok (.iload 4, 2) := by decide +kernel
theorem d_Board_arrange_113 : decode b_Board_arrange 113 = .ok (.iaload, 1) := by decide +kernel
theorem d_Board_arrange_114 : decode b_Board_arrange 114 = .ok (.goto 10, 3) := by decide +kernel
theorem d_Board_arrange_117 : decode b_Board_arrange 117 = .ok (.aload_n 0, 1) := by decide +kernel
theorem d_Board_arrange_118 : decode b_Board_arrange 118 = .ok (.getfield 35, 3) := by decide +kernel
theorem d_Board_arrange_121 : decode b_Board_arrange 121 = .ok (.iload 4, 2) := by decide +kernel
theorem d_Board_arrange_123 : decode b_Board_arrange 123 = .ok (.iaload, 1) := by decide +kernel
theorem d_Board_arrange_124 : decode b_Board_arrange 124 = .ok (.istore 7, 2) := by decide +kernel
theorem d_Board_arrange_126 : decode b_Board_arrange 126 = .ok (.aload_n 0, 1) := by decide +kernel
theorem d_Board_arrange_127 : decode b_Board_arrange 127 = .ok (.getfield 50, 3) := by decide +kernel
theorem d_Board_arrange_130 : decode b_Board_arrange 130 = .ok (.iload 7, 2) := by decide +kernel
theorem d_Board_arrange_132 : decode b_Board_arrange 132 = .ok (.bipush (-2), 2) := by decide +kernel
theorem d_Board_arrange_134 : decode b_Board_arrange 134 = .ok (.iastore, 1) := by decide +kernel
theorem d_Board_arrange_135 : decode b_Board_arrange 135 = .ok (.aload_n 0, 1) := by decide +kernel
theorem d_Board_arrange_136 : decode b_Board_arrange 136 = .ok (.getfield 62, 3) := by decide +kernel
theorem d_Board_arrange_139 : decode b_Board_arrange 139 = .ok (.iload_n 2, 1) := by decide +kernel
theorem d_Board_arrange_140 : decode b_Board_arrange 140 = .ok (.iload 7, 2) := by decide +kernel
theorem d_Board_arrange_142 : decode b_Board_arrange 142 = .ok (.aload_n 0, 1) := by decide +kernel
theorem d_Board_arrange_143 : decode b_Board_arrange 143 = .ok (.getfield 44, 3) := by decide +kernel
theorem d_Board_arrange_146 : decode b_Board_arrange 146 = .ok (.isub, 1) := by decide +kernel
theorem d_Board_arrange_147 : decode b_Board_arrange 147 = .ok (.iastore, 1) := by decide +kernel
theorem d_Board_arrange_148 : decode b_Board_arrange 148 = .ok (.iinc 2 1, 3) := by decide +kernel
theorem d_Board_arrange_151 : decode b_Board_arrange 151 = .ok (.goto 21, 3) := by decide +kernel
theorem d_Board_arrange_154 : decode b_Board_arrange 154 = .ok (.aload_n 0, 1) := by decide +kernel
theorem d_Board_arrange_155 : decode b_Board_arrange 155 = .ok (.iload 4, 2) := by decide +kernel
theorem d_Board_arrange_157 : decode b_Board_arrange 157 = .ok (.iconst 1, 1) := by decide +kernel
theorem d_Board_arrange_158 : decode b_Board_arrange 158 = .ok (.iload 5, 2) := by decide +kernel
theorem d_Board_arrange_160 : decode b_Board_arrange 160 = .ok (.iload 6, 2) := by decide +kernel
theorem d_Board_arrange_162 : decode b_Board_arrange 162 = .ok (.invokestatic 180, 3) := by decide +kernel
theorem d_Board_arrange_165 : decode b_Board_arrange 165 = .ok (.iadd, 1) := by decide +kernel
theorem d_Board_arrange_166 : decode b_Board_arrange 166 = .ok (.invokevirtual 186, 3) := by decide +kernel
theorem d_Board_arrange_169 : decode b_Board_arrange 169 = .ok (.iinc 2 (-1), 3) := by decide +kernel
theorem d_Board_arrange_172 : decode b_Board_arrange 172 = .ok (.iinc 3 1, 3) := by decide +kernel
theorem d_Board_arrange_175 : decode b_Board_arrange 175 = .ok (.goto (-151), 3) := by decide +kernel
theorem d_Board_arrange_178 : decode b_Board_arrange 178 = .ok (.iconst 1, 1) := by decide +kernel
theorem d_Board_arrange_179 : decode b_Board_arrange 179 = .ok (.ireturn, 1) := by decide +kernel
set_option maxHeartbeats 4000000 in
set_option maxRecDepth 100000 in
theorem lp_Board_arrange {p : Program} {l : Launch} {e : Env} {s : State} {m : MethodId} {args : Array Value} {below : List Frame} {meth : Method} {c : Code} {Q : State → Prop} {A : Nat → Prop} {dC : Nat → ClassId} {dI : Nat → Nat → Nat} {cB cI cL cZ cC cO : ClassId} {qd a_firstIn a_secondIn a_level a_order a_stack : Nat}{f0 f1 f2 f3 f4 f7 f8 f10 f16 f17 f18 : Value} {fi si : Nat → Nat} {fg ng x : Nat} {F : Bool × AS} (hng : ng ≤ 300) (hfg : fg ≤ 130) (hf : ∀ x, x < ng → fi x < fg + ng) (hs : ∀ x, x < ng → si x < fg + ng) (hx : p.tables.exec = Jvm.exec) (hb : c.code = b_Board_arrange) (hml : c.maxLocals = 8) (hown : s.vm.findClass R_Board = some m.cls) (hts : ∀ w ∈ tb, w.before args s = true) (hA : ∀ q, s.heap.size ≤ q → A q) (hF : stF A s) (hK : va_K (dC, dI) cl [(cB, .byte), (cI, .int), (cL, .long), (cZ, .boolean), (cC, .char), (cO, .object "java/lang/Object")] s)
    (kx1 : ∀  (H : Heap) (locs : List Loc) (ls : Array Slot), F.1 = true → va_P (dC, dI) cl [(qd, .inr (9, [f0, f1, f2, f3, f4, .ref a_firstIn, .ref a_secondIn, f7, f8, .int (nI fg), f10, .ref a_level, .int (nI F.2.2.2.2.2), .ref a_order, .int (nI F.2.2.2.2.1), .ref a_stack, f16, f17, f18])), (a_firstIn, .inl (cI, 300, .inl (nF fi))), (a_secondIn, .inl (cI, 300, .inl (nF si))), (a_level, .inl (cI, 430, .inl (zF F.2.2.1))), (a_order, .inl (cI, 300, .inl (nF F.2.2.2.1))), (a_stack, .inl (cI, 300, .inl (nF F.2.1)))] H → va_D A [(qd, .inr (9, [f0, f1, f2, f3, f4, .ref a_firstIn, .ref a_secondIn, f7, f8, .int (nI fg), f10, .ref a_level, .int (nI F.2.2.2.2.2), .ref a_order, .int (nI F.2.2.2.2.1), .ref a_stack, f16, f17, f18])), (a_firstIn, .inl (cI, 300, .inl (nF fi))), (a_secondIn, .inl (cI, 300, .inl (nF si))), (a_level, .inl (cI, 430, .inl (zF F.2.2.1))), (a_order, .inl (cI, 300, .inl (nF F.2.2.2.1))), (a_stack, .inl (cI, 300, .inl (nF F.2.1)))] → va_S A s.heap H locs → lv_has ls 8 [(1, .int (nI x)), (0, .ref qd)] → W p l e (headSpec w_Board_arrange { frames := 2, cells := 0, slots := 0, locals := 80 }).room s m args below meth c H locs 0 0 Q (F0 m 178 ls [])) (kx0 : ∀  (H : Heap) (locs : List Loc) (ls : Array Slot), F.1 = false → va_P (dC, dI) cl [(qd, .inr (9, [f0, f1, f2, f3, f4, .ref a_firstIn, .ref a_secondIn, f7, f8, .int (nI fg), f10, .ref a_level, .int (nI F.2.2.2.2.2), .ref a_order, .int (nI F.2.2.2.2.1), .ref a_stack, f16, f17, f18])), (a_firstIn, .inl (cI, 300, .inl (nF fi))), (a_secondIn, .inl (cI, 300, .inl (nF si))), (a_level, .inl (cI, 430, .inl (zF F.2.2.1))), (a_order, .inl (cI, 300, .inl (nF F.2.2.2.1))), (a_stack, .inl (cI, 300, .inl (nF F.2.1)))] H → va_D A [(qd, .inr (9, [f0, f1, f2, f3, f4, .ref a_firstIn, .ref a_secondIn, f7, f8, .int (nI fg), f10, .ref a_level, .int (nI F.2.2.2.2.2), .ref a_order, .int (nI F.2.2.2.2.1), .ref a_stack, f16, f17, f18])), (a_firstIn, .inl (cI, 300, .inl (nF fi))), (a_secondIn, .inl (cI, 300, .inl (nF si))), (a_level, .inl (cI, 430, .inl (zF F.2.2.1))), (a_order, .inl (cI, 300, .inl (nF F.2.2.2.1))), (a_stack, .inl (cI, 300, .inl (nF F.2.1)))] → va_S A s.heap H locs → lv_has ls 8 [(1, .int (nI x)), (0, .ref qd)] → W p l e (headSpec w_Board_arrange { frames := 2, cells := 0, slots := 0, locals := 80 }).room s m args below meth c H locs 0 0 Q (F0 m 87 ls [])) :
    ∀ (k : Nat) (n h : Nat) (T : AS) (H : Heap) (locs : List Loc) (ls : Array Slot), 900 < n + k → n ≤ 900 → AI fg ng h T → ar fi si fg (900 - n) h T = F → va_P (dC, dI) cl [(qd, .inr (9, [f0, f1, f2, f3, f4, .ref a_firstIn, .ref a_secondIn, f7, f8, .int (nI fg), f10, .ref a_level, .int (nI T.2.2.2.2), .ref a_order, .int (nI T.2.2.2.1), .ref a_stack, f16, f17, f18])), (a_firstIn, .inl (cI, 300, .inl (nF fi))), (a_secondIn, .inl (cI, 300, .inl (nF si))), (a_level, .inl (cI, 430, .inl (zF T.2.1))), (a_order, .inl (cI, 300, .inl (nF T.2.2.1))), (a_stack, .inl (cI, 300, .inl (nF T.1)))] H → va_D A [(qd, .inr (9, [f0, f1, f2, f3, f4, .ref a_firstIn, .ref a_secondIn, f7, f8, .int (nI fg), f10, .ref a_level, .int (nI T.2.2.2.2), .ref a_order, .int (nI T.2.2.2.1), .ref a_stack, f16, f17, f18])), (a_firstIn, .inl (cI, 300, .inl (nF fi))), (a_secondIn, .inl (cI, 300, .inl (nF si))), (a_level, .inl (cI, 430, .inl (zF T.2.1))), (a_order, .inl (cI, 300, .inl (nF T.2.2.1))), (a_stack, .inl (cI, 300, .inl (nF T.1)))] → va_S A s.heap H locs → lv_has ls 8 [(3, .int (nI n)), (2, .int (nI h)), (1, .int (nI x)), (0, .ref qd)] → W p l e (headSpec w_Board_arrange { frames := 2, cells := 0, slots := 0, locals := 80 }).room s m args below meth c H locs 0 0 Q (F0 m 24 ls []) := by
  intro k
  induction k with
  | zero =>
    intro n h T H locs ls hk hn hi hr hP hD hS hl
    exfalso; omega
  | succ k ih =>
    intro n h T H locs ls hk hn hi hr hP hD hS hl
    have hle := hi.le
    refine lv_iload_n hx hb d_Board_arrange_24 rfl (lv_at hl 0 rfl) ?_
    refine lv_sipush (v := nI 900) hx hb d_Board_arrange_25 (by decide) ?_
    refine nv_icmp_ge (tgt := 178) hx hb (by omega) (by omega) d_Board_arrange_28 (by decide) (fun c_1 => ?_) (fun c_1 => ?_)
    · have hq : (true, T) = F := by rw [← hr, ar_u, if_neg (by omega)]
      subst hq
      exact kx1 H locs ls rfl hP hD hS (lv_sub hl [2, 3] rfl)
    · refine lv_iload_n hx hb d_Board_arrange_31 rfl (lv_at hl 1 rfl) ?_
      refine nv_if_le (tgt := 178) hx hb (by omega) d_Board_arrange_32 (by decide) (fun c_2 => ?_) (fun c_2 => ?_)
      · have hq : (true, T) = F := by rw [← hr, ar_u, if_pos (by omega), if_pos (by omega)]
        subst hq
        exact kx1 H locs ls rfl hP hD hS (lv_sub hl [2, 3] rfl)
      · obtain ⟨ht1, ht2⟩ := hi.1 (h - 1) (by omega)
        have hf1 := hf _ ht1
        have hs1 := hs _ ht1
        have hl1 := hi.2.2.2.2.2.1 _ hf1
        have hl2 := hi.2.2.2.2.2.1 _ hs1
        refine lv_aload_n hx hb d_Board_arrange_35 rfl (lv_at hl 3 rfl) ?_
        refine va_get (D := (dC, dI)) (ci := 9) (v := .ref a_stack) (C := R_Board) (T := F_Board) (N := 19) hx hb hts i_Board hown hK hP 0 rfl rfl 15 (by decide) (hts _ k_388) (fun _ h9 => h9) rfl d_Board_arrange_36 ?_
        refine lv_iload_n hx hb d_Board_arrange_39 rfl (lv_at hl 1 rfl) ?_
        refine lv_iconst (v := nI 1) hx hb d_Board_arrange_40 (by decide) ?_
        refine nv_isub hx hb (by omega) d_Board_arrange_41 ?_
        refine nv_iald hx hb hK hP 5 1 rfl rfl (by omega) (by decide) d_Board_arrange_42 ?_
        refine lv_istore (lv' := [(4, .int (nI (T.1 (h - 1)))), (3, .int (nI n)), (2, .int (nI h)), (1, .int (nI x)), (0, .ref qd)]) hx hb d_Board_arrange_43 hl (by decide) rfl (fun ls hl => ?_)
        refine lv_aload_n hx hb d_Board_arrange_45 rfl (lv_at hl 4 rfl) ?_
        refine va_get (D := (dC, dI)) (ci := 9) (v := .ref a_level) (C := R_Board) (T := F_Board) (N := 19) hx hb hts i_Board hown hK hP 0 rfl rfl 11 (by decide) (hts _ k_384) (fun _ h9 => h9) rfl d_Board_arrange_46 ?_
        refine lv_aload_n hx hb d_Board_arrange_49 rfl (lv_at hl 4 rfl) ?_
        refine va_get (D := (dC, dI)) (ci := 9) (v := .ref a_firstIn) (C := R_Board) (T := F_Board) (N := 19) hx hb hts i_Board hown hK hP 0 rfl rfl 5 (by decide) (hts _ k_378) (fun _ h9 => h9) rfl d_Board_arrange_50 ?_
        refine lv_iload hx hb d_Board_arrange_53 (lv_at hl 0 rfl) ?_
        refine nv_iald hx hb hK hP 1 1 rfl rfl (by omega) (by decide) d_Board_arrange_55 ?_
        refine nv_iald hx hb hK hP 3 1 rfl rfl (by omega) (by decide) d_Board_arrange_56 ?_
        refine lv_istore (lv' := [(5, .int (zI (T.2.1 (fi (T.1 (h - 1)))))), (4, .int (nI (T.1 (h - 1)))), (3, .int (nI n)), (2, .int (nI h)), (1, .int (nI x)), (0, .ref qd)]) hx hb d_Board_arrange_57 hl (by decide) rfl (fun ls hl => ?_)
        refine lv_aload_n hx hb d_Board_arrange_59 rfl (lv_at hl 5 rfl) ?_
        refine va_get (D := (dC, dI)) (ci := 9) (v := .ref a_level) (C := R_Board) (T := F_Board) (N := 19) hx hb hts i_Board hown hK hP 0 rfl rfl 11 (by decide) (hts _ k_384) (fun _ h9 => h9) rfl d_Board_arrange_60 ?_
        refine lv_aload_n hx hb d_Board_arrange_63 rfl (lv_at hl 5 rfl) ?_
        refine va_get (D := (dC, dI)) (ci := 9) (v := .ref a_secondIn) (C := R_Board) (T := F_Board) (N := 19) hx hb hts i_Board hown hK hP 0 rfl rfl 6 (by decide) (hts _ k_379) (fun _ h9 => h9) rfl d_Board_arrange_64 ?_
        refine lv_iload hx hb d_Board_arrange_67 (lv_at hl 1 rfl) ?_
        refine nv_iald hx hb hK hP 2 1 rfl rfl (by omega) (by decide) d_Board_arrange_69 ?_
        refine nv_iald hx hb hK hP 3 1 rfl rfl (by omega) (by decide) d_Board_arrange_70 ?_
        refine lv_istore (lv' := [(6, .int (zI (T.2.1 (si (T.1 (h - 1)))))), (5, .int (zI (T.2.1 (fi (T.1 (h - 1)))))), (4, .int (nI (T.1 (h - 1)))), (3, .int (nI n)), (2, .int (nI h)), (1, .int (nI x)), (0, .ref qd)]) hx hb d_Board_arrange_71 hl (by decide) rfl (fun ls hl => ?_)
        refine lv_iload hx hb d_Board_arrange_73 (lv_at hl 1 rfl) ?_
        refine lv_bipush (v := (-2)) hx hb d_Board_arrange_75 (by decide) ?_
        refine nv_c2icmp_eq (tgt := 87) hx hb (by omega) d_Board_arrange_77 (by decide) (fun c_3 => ?_) (fun c_3 => ?_)
        · have hq : (false, T) = F := by rw [← hr, ar_u, if_pos (by omega), if_neg (by omega), if_pos (Or.inl c_3)]
          subst hq
          exact kx0 H locs ls rfl hP hD hS (lv_sub hl [5, 6] rfl)
        · refine lv_iload hx hb d_Board_arrange_80 (lv_at hl 0 rfl) ?_
          refine lv_bipush (v := (-2)) hx hb d_Board_arrange_82 (by decide) ?_
          refine nv_c2icmp_ne (tgt := 89) hx hb (by omega) d_Board_arrange_84 (by decide) (fun c_4 => ?_) (fun c_4 => ?_)
          · refine lv_iload hx hb d_Board_arrange_89 (lv_at hl 1 rfl) ?_
            refine lv_iconst (v := (-1)) hx hb d_Board_arrange_91 (by decide) ?_
            refine nv_cicmp_eq (tgt := 101) hx hb (by omega) d_Board_arrange_92 (by decide) (fun c_5 => ?_) (fun c_5 => ?_)
            · refine lv_iload hx hb d_Board_arrange_101 (lv_at hl 1 rfl) ?_
              refine lv_iconst (v := (-1)) hx hb d_Board_arrange_103 (by decide) ?_
              refine nv_cicmp_ne (tgt := 117) hx hb (by omega) d_Board_arrange_104 (by decide) (fun c_6 => ?_) (fun c_6 => ?_)
              · exact absurd c_5 c_6
              · refine lv_aload_n hx hb d_Board_arrange_107 rfl (lv_at hl 6 rfl) ?_
                refine va_get (D := (dC, dI)) (ci := 9) (v := .ref a_firstIn) (C := R_Board) (T := F_Board) (N := 19) hx hb hts i_Board hown hK hP 0 rfl rfl 5 (by decide) (hts _ k_378) (fun _ h9 => h9) rfl d_Board_arrange_108 ?_
                refine lv_iload hx hb d_Board_arrange_111 (lv_at hl 2 rfl) ?_
                refine nv_iald hx hb hK hP 1 1 rfl rfl (by omega) (by decide) d_Board_arrange_113 ?_
                refine lv_goto (tgt := 124) hx hb d_Board_arrange_114 (by decide) ?_
                refine lv_istore (lv' := [(7, .int (nI (fi (T.1 (h - 1))))), (6, .int (zI (T.2.1 (si (T.1 (h - 1)))))), (5, .int (zI (T.2.1 (fi (T.1 (h - 1)))))), (4, .int (nI (T.1 (h - 1)))), (3, .int (nI n)), (2, .int (nI h)), (1, .int (nI x)), (0, .ref qd)]) hx hb d_Board_arrange_124 hl (by decide) rfl (fun ls hl => ?_)
                obtain ⟨hr1, hr2⟩ := hi.room hf1 c_5
                refine lv_aload_n hx hb d_Board_arrange_126 rfl (lv_at hl 7 rfl) ?_
                refine va_get (D := (dC, dI)) (ci := 9) (v := .ref a_level) (C := R_Board) (T := F_Board) (N := 19) hx hb hts i_Board hown hK hP 0 rfl rfl 11 (by decide) (hts _ k_384) (fun _ h9 => h9) rfl d_Board_arrange_127 ?_
                refine lv_iload hx hb d_Board_arrange_130 (lv_at hl 0 rfl) ?_
                refine lv_bipush (v := (-2)) hx hb d_Board_arrange_132 (by decide) ?_
                refine nv_iastC (x := 0) hx hb hK hP hD hS 3 1 rfl rfl (by omega) (by decide) d_Board_arrange_134 (fun H locs hP hD hS => ?_)
                have hP : va_P (dC, dI) cl [(qd, .inr (9, [f0, f1, f2, f3, f4, .ref a_firstIn, .ref a_secondIn, f7, f8, .int (nI fg), f10, .ref a_level, .int (nI T.2.2.2.2), .ref a_order, .int (nI T.2.2.2.1), .ref a_stack, f16, f17, f18])), (a_firstIn, .inl (cI, 300, .inl (nF fi))), (a_secondIn, .inl (cI, 300, .inl (nF si))), (a_level, .inl (cI, 430, .inl (zF (va_up T.2.1 (fi (T.1 (h - 1))) 0)))), (a_order, .inl (cI, 300, .inl (nF T.2.2.1))), (a_stack, .inl (cI, 300, .inl (nF T.1)))] H := hP
                have hD : va_D A [(qd, .inr (9, [f0, f1, f2, f3, f4, .ref a_firstIn, .ref a_secondIn, f7, f8, .int (nI fg), f10, .ref a_level, .int (nI T.2.2.2.2), .ref a_order, .int (nI T.2.2.2.1), .ref a_stack, f16, f17, f18])), (a_firstIn, .inl (cI, 300, .inl (nF fi))), (a_secondIn, .inl (cI, 300, .inl (nF si))), (a_level, .inl (cI, 430, .inl (zF (va_up T.2.1 (fi (T.1 (h - 1))) 0)))), (a_order, .inl (cI, 300, .inl (nF T.2.2.1))), (a_stack, .inl (cI, 300, .inl (nF T.1)))] := hD
                refine lv_aload_n hx hb d_Board_arrange_135 rfl (lv_at hl 7 rfl) ?_
                refine va_get (D := (dC, dI)) (ci := 9) (v := .ref a_stack) (C := R_Board) (T := F_Board) (N := 19) hx hb hts i_Board hown hK hP 0 rfl rfl 15 (by decide) (hts _ k_388) (fun _ h9 => h9) rfl d_Board_arrange_136 ?_
                refine lv_iload_n hx hb d_Board_arrange_139 rfl (lv_at hl 5 rfl) ?_
                refine lv_iload hx hb d_Board_arrange_140 (lv_at hl 0 rfl) ?_
                refine lv_aload_n hx hb d_Board_arrange_142 rfl (lv_at hl 7 rfl) ?_
                refine va_get (D := (dC, dI)) (ci := 9) (v := .int (nI fg)) (C := R_Board) (T := F_Board) (N := 19) hx hb hts i_Board hown hK hP 0 rfl rfl 9 (by decide) (hts _ k_382) (fun _ h9 => h9) rfl d_Board_arrange_143 ?_
                refine nv_isub hx hb (by omega) d_Board_arrange_146 ?_
                refine nv_iastN (x := (fi (T.1 (h - 1))) - fg) hx hb hK hP hD hS 5 1 rfl rfl (by omega) (by decide) d_Board_arrange_147 (fun H locs hP hD hS => ?_)
                have hP : va_P (dC, dI) cl [(qd, .inr (9, [f0, f1, f2, f3, f4, .ref a_firstIn, .ref a_secondIn, f7, f8, .int (nI fg), f10, .ref a_level, .int (nI T.2.2.2.2), .ref a_order, .int (nI T.2.2.2.1), .ref a_stack, f16, f17, f18])), (a_firstIn, .inl (cI, 300, .inl (nF fi))), (a_secondIn, .inl (cI, 300, .inl (nF si))), (a_level, .inl (cI, 430, .inl (zF (va_up T.2.1 (fi (T.1 (h - 1))) 0)))), (a_order, .inl (cI, 300, .inl (nF T.2.2.1))), (a_stack, .inl (cI, 300, .inl (nF (va_up T.1 h ((fi (T.1 (h - 1))) - fg)))))] H := hP
                have hD : va_D A [(qd, .inr (9, [f0, f1, f2, f3, f4, .ref a_firstIn, .ref a_secondIn, f7, f8, .int (nI fg), f10, .ref a_level, .int (nI T.2.2.2.2), .ref a_order, .int (nI T.2.2.2.1), .ref a_stack, f16, f17, f18])), (a_firstIn, .inl (cI, 300, .inl (nF fi))), (a_secondIn, .inl (cI, 300, .inl (nF si))), (a_level, .inl (cI, 430, .inl (zF (va_up T.2.1 (fi (T.1 (h - 1))) 0)))), (a_order, .inl (cI, 300, .inl (nF T.2.2.1))), (a_stack, .inl (cI, 300, .inl (nF (va_up T.1 h ((fi (T.1 (h - 1))) - fg)))))] := hD
                refine lv_iinc (v := nI (h + 1)) (lv' := [(2, .int (nI (h + 1))), (7, .int (nI (fi (T.1 (h - 1))))), (6, .int (zI (T.2.1 (si (T.1 (h - 1)))))), (5, .int (zI (T.2.1 (fi (T.1 (h - 1)))))), (4, .int (nI (T.1 (h - 1)))), (3, .int (nI n)), (1, .int (nI x)), (0, .ref qd)]) hx hb d_Board_arrange_148 hl (k := 5) rfl (nI_1 _) (by decide) rfl (fun ls hl => ?_)
                refine lv_goto (tgt := 172) hx hb d_Board_arrange_151 (by decide) ?_
                refine lv_iinc (v := nI (n + 1)) (lv' := [(3, .int (nI (n + 1))), (2, .int (nI (h + 1))), (7, .int (nI (fi (T.1 (h - 1))))), (6, .int (zI (T.2.1 (si (T.1 (h - 1)))))), (5, .int (zI (T.2.1 (fi (T.1 (h - 1)))))), (4, .int (nI (T.1 (h - 1)))), (1, .int (nI x)), (0, .ref qd)]) hx hb d_Board_arrange_172 hl (k := 5) rfl (nI_1 _) (by decide) rfl (fun ls hl => ?_)
                refine lv_goto (tgt := 24) hx hb d_Board_arrange_175 (by decide) ?_
                have hpq : ar_p fi si fg h T = (va_up T.1 h (fi (T.1 (h - 1)) - fg), va_up T.2.1 (fi (T.1 (h - 1))) 0, T.2.2) := by unfold ar_p ar_n; rw [if_pos c_5]
                exact ih (n + 1) (h + 1) (va_up T.1 h (fi (T.1 (h - 1)) - fg), va_up T.2.1 (fi (T.1 (h - 1))) 0, T.2.2) H locs ls (by omega) (by omega) (by rw [← hpq]; exact (hi.push (by omega) hf1 hs1 (Or.inl c_5)).1) (by rw [← hr, ar_u fi si fg 900 n, if_pos (by omega), if_neg (by omega), if_neg (fun q9 => q9.elim c_3 c_4), if_pos (Or.inl c_5), hpq]) hP hD hS (lv_sub hl [0, 1, 6, 7] rfl)
            · refine lv_iload hx hb d_Board_arrange_95 (lv_at hl 0 rfl) ?_
              refine lv_iconst (v := (-1)) hx hb d_Board_arrange_97 (by decide) ?_
              refine nv_cicmp_ne (tgt := 154) hx hb (by omega) d_Board_arrange_98 (by decide) (fun c_7 => ?_) (fun c_7 => ?_)
              · refine lv_aload_n hx hb d_Board_arrange_154 rfl (lv_at hl 6 rfl) ?_
                refine lv_iload hx hb d_Board_arrange_155 (lv_at hl 2 rfl) ?_
                refine lv_iconst (v := nI 1) hx hb d_Board_arrange_157 (by decide) ?_
                refine lv_iload hx hb d_Board_arrange_158 (lv_at hl 1 rfl) ?_
                refine lv_iload hx hb d_Board_arrange_160 (lv_at hl 0 rfl) ?_
                rw [show zI (T.2.1 (fi (T.1 (h - 1)))) = nI (T.2.1 (fi (T.1 (h - 1))) - 2) from zI_n (by omega), show zI (T.2.1 (si (T.1 (h - 1)))) = nI (T.2.1 (si (T.1 (h - 1))) - 2) from zI_n (by omega)]
                refine va_mmax hx hb (by rw [hml]; exact hl.1.symm) hown (hts _ k_817) (hts _ k_274) (hts _ k_13) (hts _ k_275) (Nat.le_of_ble_eq_true rfl) (Nat.le_of_ble_eq_true rfl) (Nat.le_of_ble_eq_true rfl) (Nat.le_of_ble_eq_true rfl) d_Board_arrange_162 ?_
                rw [show (if nI (T.2.1 (fi (T.1 (h - 1))) - 2) < nI (T.2.1 (si (T.1 (h - 1))) - 2) then nI (T.2.1 (si (T.1 (h - 1))) - 2) else nI (T.2.1 (fi (T.1 (h - 1))) - 2)) = nI (max (T.2.1 (fi (T.1 (h - 1))) - 2) (T.2.1 (si (T.1 (h - 1))) - 2)) from nI_max (by omega) (by omega)]
                refine nv_iadd hx hb d_Board_arrange_165 ?_
                have hpp := hi.pop (fi := fi) (si := si) (by omega) hf1 hs1
                have hpn := hi.popn (by omega)
                have hdp := hi.2.2.2.2.2.2.1
                refine wc_v (wc := [(qd, .inr (9, [f0, f1, f2, f3, f4, .ref a_firstIn, .ref a_secondIn, f7, f8, .int (nI fg), f10, .ref a_level, .int (nI T.2.2.2.2), .ref a_order, .int (nI T.2.2.2.1), .ref a_stack, f16, f17, f18])), (a_order, .inl (cI, 300, .inl (nF T.2.2.1))), (a_level, .inl (cI, 430, .inl (zF T.2.1)))]) (wr := [(a_firstIn, .inl (cI, 300, .inl (nF fi))), (a_secondIn, .inl (cI, 300, .inl (nF si))), (a_stack, .inl (cI, 300, .inl (nF T.1)))]) (va_runV (As := [.int (nI (T.1 (h - 1))), .int (nI (1 + (max (T.2.1 (fi (T.1 (h - 1))) - 2) (T.2.1 (si (T.1 (h - 1))) - 2))))]) (rest := []) ⟨hx, hb, hml, hown, hts⟩ (c_Board_append l dC dI cB cI cL cZ cC cO T.2.2.1 T.2.1 fg T.2.2.2.1 T.2.2.2.2 (T.1 (h - 1)) (1 + (max (T.2.1 (fi (T.1 (h - 1))) - 2) (T.2.1 (si (T.1 (h - 1))) - 2))) _ hfg (by omega) (by omega) (by omega) (by omega)) (cwV 2 hts (good_V k_818 k_820 s_Board_append k_18 k_821) rfl rfl rfl (by decide +kernel) ⟨Nat.le_of_ble_eq_true rfl, Nat.le_of_ble_eq_true rfl⟩) (wc_preV (k0 := 0) (ci := 9) (r := (R_Board, F_Board, 19)) hK hP hD hS hA hF [0, 4, 3] (by decide) rfl rfl rfl) rfl rfl hl.1 rfl (lv_room (Nat.le_of_ble_eq_true rfl)) d_Board_arrange_166 ⟨Nat.le_of_ble_eq_true rfl, Nat.le_of_ble_eq_true rfl⟩) hP hD hS hA [0, 4, 3] [1, 2, 5] rfl rfl (by decide) (by decide) (fun _ H locs w_8 hP hD hS => ?_)
                have hP : va_P (dC, dI) cl [(a_firstIn, .inl (cI, 300, .inl (nF fi))), (a_secondIn, .inl (cI, 300, .inl (nF si))), (a_stack, .inl (cI, 300, .inl (nF T.1))), (qd, .inr (9, [f0, f1, f2, f3, f4, .ref a_firstIn, .ref a_secondIn, f7, f8, .int (nI fg), f10, .ref a_level, .int (nI ((ap fg (T.1 (h - 1)) (ar_l fi si T (T.1 (h - 1))) T).2.2.2.2)), .ref a_order, .int (nI ((ap fg (T.1 (h - 1)) (ar_l fi si T (T.1 (h - 1))) T).2.2.2.1)), .ref a_stack, f16, f17, f18])), (a_order, .inl (cI, 300, .inl (nF ((ap fg (T.1 (h - 1)) (ar_l fi si T (T.1 (h - 1))) T).2.2.1)))), (a_level, .inl (cI, 430, .inl (zF ((ap fg (T.1 (h - 1)) (ar_l fi si T (T.1 (h - 1))) T).2.1))))] H := hP
                have hD : va_D A [(a_firstIn, .inl (cI, 300, .inl (nF fi))), (a_secondIn, .inl (cI, 300, .inl (nF si))), (a_stack, .inl (cI, 300, .inl (nF T.1))), (qd, .inr (9, [f0, f1, f2, f3, f4, .ref a_firstIn, .ref a_secondIn, f7, f8, .int (nI fg), f10, .ref a_level, .int (nI ((ap fg (T.1 (h - 1)) (ar_l fi si T (T.1 (h - 1))) T).2.2.2.2)), .ref a_order, .int (nI ((ap fg (T.1 (h - 1)) (ar_l fi si T (T.1 (h - 1))) T).2.2.2.1)), .ref a_stack, f16, f17, f18])), (a_order, .inl (cI, 300, .inl (nF ((ap fg (T.1 (h - 1)) (ar_l fi si T (T.1 (h - 1))) T).2.2.1)))), (a_level, .inl (cI, 430, .inl (zF ((ap fg (T.1 (h - 1)) (ar_l fi si T (T.1 (h - 1))) T).2.1))))] := hD
                refine lv_iinc (v := nI (h - 1)) (lv' := [(2, .int (nI (h - 1))), (6, .int (zI (T.2.1 (si (T.1 (h - 1)))))), (5, .int (zI (T.2.1 (fi (T.1 (h - 1)))))), (4, .int (nI (T.1 (h - 1)))), (3, .int (nI n)), (1, .int (nI x)), (0, .ref qd)]) hx hb d_Board_arrange_169 hl (k := 4) rfl (nI_pm (by omega)) (by decide) rfl (fun ls hl => ?_)
                refine lv_iinc (v := nI (n + 1)) (lv' := [(3, .int (nI (n + 1))), (2, .int (nI (h - 1))), (6, .int (zI (T.2.1 (si (T.1 (h - 1)))))), (5, .int (zI (T.2.1 (fi (T.1 (h - 1)))))), (4, .int (nI (T.1 (h - 1)))), (1, .int (nI x)), (0, .ref qd)]) hx hb d_Board_arrange_172 hl (k := 4) rfl (nI_1 _) (by decide) rfl (fun ls hl => ?_)
                refine lv_goto (tgt := 24) hx hb d_Board_arrange_175 (by decide) ?_
                exact ih (n + 1) (h - 1) (ap fg (T.1 (h - 1)) (ar_l fi si T (T.1 (h - 1))) T) H locs ls (by omega) (by omega) hpp.1 (by rw [← hr, ar_u fi si fg 900 n, if_pos (by omega), if_neg (by omega), if_neg (fun q9 => q9.elim c_3 c_4), if_neg (fun q9 => q9.elim c_5 c_7)]) (hP.sub [3, 0, 1, 5, 4, 2] rfl) (hD.sub [3, 0, 1, 5, 4, 2] (by decide) rfl) hS (lv_sub hl [0, 1, 5, 6] rfl)
              · refine lv_iload hx hb d_Board_arrange_101 (lv_at hl 1 rfl) ?_
                refine lv_iconst (v := (-1)) hx hb d_Board_arrange_103 (by decide) ?_
                refine nv_cicmp_ne (tgt := 117) hx hb (by omega) d_Board_arrange_104 (by decide) (fun c_10 => ?_) (fun c_10 => ?_)
                · refine lv_aload_n hx hb d_Board_arrange_117 rfl (lv_at hl 6 rfl) ?_
                  refine va_get (D := (dC, dI)) (ci := 9) (v := .ref a_secondIn) (C := R_Board) (T := F_Board) (N := 19) hx hb hts i_Board hown hK hP 0 rfl rfl 6 (by decide) (hts _ k_379) (fun _ h9 => h9) rfl d_Board_arrange_118 ?_
                  refine lv_iload hx hb d_Board_arrange_121 (lv_at hl 2 rfl) ?_
                  refine nv_iald hx hb hK hP 2 1 rfl rfl (by omega) (by decide) d_Board_arrange_123 ?_
                  refine lv_istore (lv' := [(7, .int (nI (si (T.1 (h - 1))))), (6, .int (zI (T.2.1 (si (T.1 (h - 1)))))), (5, .int (zI (T.2.1 (fi (T.1 (h - 1)))))), (4, .int (nI (T.1 (h - 1)))), (3, .int (nI n)), (2, .int (nI h)), (1, .int (nI x)), (0, .ref qd)]) hx hb d_Board_arrange_124 hl (by decide) rfl (fun ls hl => ?_)
                  obtain ⟨hr1, hr2⟩ := hi.room hs1 c_7
                  refine lv_aload_n hx hb d_Board_arrange_126 rfl (lv_at hl 7 rfl) ?_
                  refine va_get (D := (dC, dI)) (ci := 9) (v := .ref a_level) (C := R_Board) (T := F_Board) (N := 19) hx hb hts i_Board hown hK hP 0 rfl rfl 11 (by decide) (hts _ k_384) (fun _ h9 => h9) rfl d_Board_arrange_127 ?_
                  refine lv_iload hx hb d_Board_arrange_130 (lv_at hl 0 rfl) ?_
                  refine lv_bipush (v := (-2)) hx hb d_Board_arrange_132 (by decide) ?_
                  refine nv_iastC (x := 0) hx hb hK hP hD hS 3 1 rfl rfl (by omega) (by decide) d_Board_arrange_134 (fun H locs hP hD hS => ?_)
                  have hP : va_P (dC, dI) cl [(qd, .inr (9, [f0, f1, f2, f3, f4, .ref a_firstIn, .ref a_secondIn, f7, f8, .int (nI fg), f10, .ref a_level, .int (nI T.2.2.2.2), .ref a_order, .int (nI T.2.2.2.1), .ref a_stack, f16, f17, f18])), (a_firstIn, .inl (cI, 300, .inl (nF fi))), (a_secondIn, .inl (cI, 300, .inl (nF si))), (a_level, .inl (cI, 430, .inl (zF (va_up T.2.1 (si (T.1 (h - 1))) 0)))), (a_order, .inl (cI, 300, .inl (nF T.2.2.1))), (a_stack, .inl (cI, 300, .inl (nF T.1)))] H := hP
                  have hD : va_D A [(qd, .inr (9, [f0, f1, f2, f3, f4, .ref a_firstIn, .ref a_secondIn, f7, f8, .int (nI fg), f10, .ref a_level, .int (nI T.2.2.2.2), .ref a_order, .int (nI T.2.2.2.1), .ref a_stack, f16, f17, f18])), (a_firstIn, .inl (cI, 300, .inl (nF fi))), (a_secondIn, .inl (cI, 300, .inl (nF si))), (a_level, .inl (cI, 430, .inl (zF (va_up T.2.1 (si (T.1 (h - 1))) 0)))), (a_order, .inl (cI, 300, .inl (nF T.2.2.1))), (a_stack, .inl (cI, 300, .inl (nF T.1)))] := hD
                  refine lv_aload_n hx hb d_Board_arrange_135 rfl (lv_at hl 7 rfl) ?_
                  refine va_get (D := (dC, dI)) (ci := 9) (v := .ref a_stack) (C := R_Board) (T := F_Board) (N := 19) hx hb hts i_Board hown hK hP 0 rfl rfl 15 (by decide) (hts _ k_388) (fun _ h9 => h9) rfl d_Board_arrange_136 ?_
                  refine lv_iload_n hx hb d_Board_arrange_139 rfl (lv_at hl 5 rfl) ?_
                  refine lv_iload hx hb d_Board_arrange_140 (lv_at hl 0 rfl) ?_
                  refine lv_aload_n hx hb d_Board_arrange_142 rfl (lv_at hl 7 rfl) ?_
                  refine va_get (D := (dC, dI)) (ci := 9) (v := .int (nI fg)) (C := R_Board) (T := F_Board) (N := 19) hx hb hts i_Board hown hK hP 0 rfl rfl 9 (by decide) (hts _ k_382) (fun _ h9 => h9) rfl d_Board_arrange_143 ?_
                  refine nv_isub hx hb (by omega) d_Board_arrange_146 ?_
                  refine nv_iastN (x := (si (T.1 (h - 1))) - fg) hx hb hK hP hD hS 5 1 rfl rfl (by omega) (by decide) d_Board_arrange_147 (fun H locs hP hD hS => ?_)
                  have hP : va_P (dC, dI) cl [(qd, .inr (9, [f0, f1, f2, f3, f4, .ref a_firstIn, .ref a_secondIn, f7, f8, .int (nI fg), f10, .ref a_level, .int (nI T.2.2.2.2), .ref a_order, .int (nI T.2.2.2.1), .ref a_stack, f16, f17, f18])), (a_firstIn, .inl (cI, 300, .inl (nF fi))), (a_secondIn, .inl (cI, 300, .inl (nF si))), (a_level, .inl (cI, 430, .inl (zF (va_up T.2.1 (si (T.1 (h - 1))) 0)))), (a_order, .inl (cI, 300, .inl (nF T.2.2.1))), (a_stack, .inl (cI, 300, .inl (nF (va_up T.1 h ((si (T.1 (h - 1))) - fg)))))] H := hP
                  have hD : va_D A [(qd, .inr (9, [f0, f1, f2, f3, f4, .ref a_firstIn, .ref a_secondIn, f7, f8, .int (nI fg), f10, .ref a_level, .int (nI T.2.2.2.2), .ref a_order, .int (nI T.2.2.2.1), .ref a_stack, f16, f17, f18])), (a_firstIn, .inl (cI, 300, .inl (nF fi))), (a_secondIn, .inl (cI, 300, .inl (nF si))), (a_level, .inl (cI, 430, .inl (zF (va_up T.2.1 (si (T.1 (h - 1))) 0)))), (a_order, .inl (cI, 300, .inl (nF T.2.2.1))), (a_stack, .inl (cI, 300, .inl (nF (va_up T.1 h ((si (T.1 (h - 1))) - fg)))))] := hD
                  refine lv_iinc (v := nI (h + 1)) (lv' := [(2, .int (nI (h + 1))), (7, .int (nI (si (T.1 (h - 1))))), (6, .int (zI (T.2.1 (si (T.1 (h - 1)))))), (5, .int (zI (T.2.1 (fi (T.1 (h - 1)))))), (4, .int (nI (T.1 (h - 1)))), (3, .int (nI n)), (1, .int (nI x)), (0, .ref qd)]) hx hb d_Board_arrange_148 hl (k := 5) rfl (nI_1 _) (by decide) rfl (fun ls hl => ?_)
                  refine lv_goto (tgt := 172) hx hb d_Board_arrange_151 (by decide) ?_
                  refine lv_iinc (v := nI (n + 1)) (lv' := [(3, .int (nI (n + 1))), (2, .int (nI (h + 1))), (7, .int (nI (si (T.1 (h - 1))))), (6, .int (zI (T.2.1 (si (T.1 (h - 1)))))), (5, .int (zI (T.2.1 (fi (T.1 (h - 1)))))), (4, .int (nI (T.1 (h - 1)))), (1, .int (nI x)), (0, .ref qd)]) hx hb d_Board_arrange_172 hl (k := 5) rfl (nI_1 _) (by decide) rfl (fun ls hl => ?_)
                  refine lv_goto (tgt := 24) hx hb d_Board_arrange_175 (by decide) ?_
                  have hpq : ar_p fi si fg h T = (va_up T.1 h (si (T.1 (h - 1)) - fg), va_up T.2.1 (si (T.1 (h - 1))) 0, T.2.2) := by unfold ar_p ar_n; rw [if_neg c_5]
                  exact ih (n + 1) (h + 1) (va_up T.1 h (si (T.1 (h - 1)) - fg), va_up T.2.1 (si (T.1 (h - 1))) 0, T.2.2) H locs ls (by omega) (by omega) (by rw [← hpq]; exact (hi.push (by omega) hf1 hs1 (Or.inr c_7)).1) (by rw [← hr, ar_u fi si fg 900 n, if_pos (by omega), if_neg (by omega), if_neg (fun q9 => q9.elim c_3 c_4), if_pos (Or.inr c_7), hpq]) hP hD hS (lv_sub hl [0, 1, 6, 7] rfl)
                · exact absurd c_10 c_5
          · have hq : (false, T) = F := by rw [← hr, ar_u, if_pos (by omega), if_neg (by omega), if_pos (Or.inr c_4)]
            subst hq
            exact kx0 H locs ls rfl hP hD hS (lv_sub hl [5, 6] rfl)
set_option maxHeartbeats 4000000 in
set_option maxRecDepth 100000 in
/-- arrange(gate) -/
theorem c_Board_arrange (l : Launch) (dC : Nat → ClassId) (dI : Nat → Nat → Nat) (cB cI cL cZ cC cO : ClassId) {qd a_firstIn a_secondIn a_level a_order a_stack : Nat}{f0 f1 f2 f3 f4 f7 f8 f10 f16 f17 f18 : Value} (fi si : Nat → Nat) (fg ng x : Nat) (T : AS) (sz : Nat) (hng : ng ≤ 300) (hfg : fg ≤ 130) (hf : ∀ x, x < ng → fi x < fg + ng) (hs : ∀ x, x < ng → si x < fg + ng) (hi : AI fg ng 0 T) (hx0 : x < ng) (h1 : T.2.1 (fg + x) = 1) : Met l y_Board_arrange w_Board_arrange ({ frames := 2, cells := 0, slots := 0, locals := 80 }) (va_Pc [.ref qd, .int (nI x)] (wB (dC, dI) cl [(cB, .byte), (cI, .int), (cL, .long), (cZ, .boolean), (cC, .char), (cO, .object "java/lang/Object")] sz [(qd, .inr (9, [f0, f1, f2, f3, f4, .ref a_firstIn, .ref a_secondIn, f7, f8, .int (nI fg), f10, .ref a_level, .int (nI T.2.2.2.2), .ref a_order, .int (nI T.2.2.2.1), .ref a_stack, f16, f17, f18])), (a_firstIn, .inl (cI, 300, .inl (nF fi))), (a_secondIn, .inl (cI, 300, .inl (nF si))), (a_level, .inl (cI, 430, .inl (zF T.2.1))), (a_order, .inl (cI, 300, .inl (nF T.2.2.1))), (a_stack, .inl (cI, 300, .inl (nF T.1)))])) (va_Qi (fun (r : Int32) (u : Bool × AS) => r = bI u.1 ∧ u = (ar fi si fg 900 1 (ar_0 fg x T))) (fun u t => wA (dC, dI) cl [(cB, .byte), (cI, .int), (cL, .long), (cZ, .boolean), (cC, .char), (cO, .object "java/lang/Object")] (va_A [(qd, .inr (9, [f0, f1, f2, f3, f4, .ref a_firstIn, .ref a_secondIn, f7, f8, .int (nI fg), f10, .ref a_level, .int (nI T.2.2.2.2), .ref a_order, .int (nI T.2.2.2.1), .ref a_stack, f16, f17, f18])), (a_firstIn, .inl (cI, 300, .inl (nF fi))), (a_secondIn, .inl (cI, 300, .inl (nF si))), (a_level, .inl (cI, 430, .inl (zF T.2.1))), (a_order, .inl (cI, 300, .inl (nF T.2.2.1))), (a_stack, .inl (cI, 300, .inl (nF T.1)))] sz) [(qd, .inr (9, [f0, f1, f2, f3, f4, .ref a_firstIn, .ref a_secondIn, f7, f8, .int (nI fg), f10, .ref a_level, .int (nI u.2.2.2.2.2), .ref a_order, .int (nI u.2.2.2.2.1), .ref a_stack, f16, f17, f18])), (a_firstIn, .inl (cI, 300, .inl (nF fi))), (a_secondIn, .inl (cI, 300, .inl (nF si))), (a_level, .inl (cI, 430, .inl (zF u.2.2.1))), (a_order, .inl (cI, 300, .inl (nF u.2.2.2.1))), (a_stack, .inl (cI, 300, .inl (nF u.2.1)))] t) (va_A [(qd, .inr (9, [f0, f1, f2, f3, f4, .ref a_firstIn, .ref a_secondIn, f7, f8, .int (nI fg), f10, .ref a_level, .int (nI T.2.2.2.2), .ref a_order, .int (nI T.2.2.2.1), .ref a_stack, f16, f17, f18])), (a_firstIn, .inl (cI, 300, .inl (nF fi))), (a_secondIn, .inl (cI, 300, .inl (nF si))), (a_level, .inl (cI, 430, .inl (zF T.2.1))), (a_order, .inl (cI, 300, .inl (nF T.2.2.1))), (a_stack, .inl (cI, 300, .inl (nF T.1)))] sz)) 0 0 (va_A [(qd, .inr (9, [f0, f1, f2, f3, f4, .ref a_firstIn, .ref a_secondIn, f7, f8, .int (nI fg), f10, .ref a_level, .int (nI T.2.2.2.2), .ref a_order, .int (nI T.2.2.2.1), .ref a_stack, f16, f17, f18])), (a_firstIn, .inl (cI, 300, .inl (nF fi))), (a_secondIn, .inl (cI, 300, .inl (nF si))), (a_level, .inl (cI, 430, .inl (zF T.2.1))), (a_order, .inl (cI, 300, .inl (nF T.2.2.1))), (a_stack, .inl (cI, 300, .inl (nF T.1)))] sz) := by
  refine Met.ofW (cc := b_Board_arrange) (maxL := 8) (ret := (some ClassFile.FieldType.boolean)) (by decide) rfl ?_
  intro p e s m args below meth c s₁ B hml hv
  obtain ⟨rfl, hsz, hP, hK, hD0, hF⟩ := hv
  have hx := B.exec
  have hb := B.bytes
  have hr := B.returns
  have hts := atoms_spec (ws := w_Board_arrange) B.pre
  have hts : ∀ w ∈ tb, w.before _ s = true := fun w h => hts w (List.mem_cons_of_mem _ h)
  have hown : s.vm.findClass R_Board = some m.cls := findClass_of_methodNamed B.named
  have hlocks := B.notSynchronized
  subst hsz
  have hD := hD0.self (sz := s.heap.size)
  generalize hAe : va_A [(qd, .inr (9, [f0, f1, f2, f3, f4, .ref a_firstIn, .ref a_secondIn, f7, f8, .int (nI fg), f10, .ref a_level, .int (nI T.2.2.2.2), .ref a_order, .int (nI T.2.2.2.1), .ref a_stack, f16, f17, f18])), (a_firstIn, .inl (cI, 300, .inl (nF fi))), (a_secondIn, .inl (cI, 300, .inl (nF si))), (a_level, .inl (cI, 430, .inl (zF T.2.1))), (a_order, .inl (cI, 300, .inl (nF T.2.2.1))), (a_stack, .inl (cI, 300, .inl (nF T.1)))] s.heap.size = A at hD hF ⊢
  have hA : ∀ q : Nat, s.heap.size ≤ q → A q := fun q h => by rw [← hAe]; exact Or.inr h
  have hS : va_S A s.heap s.heap [] := va_S.rf
  have hP : va_P (dC, dI) cl [(qd, .inr (9, [f0, f1, f2, f3, f4, .ref a_firstIn, .ref a_secondIn, f7, f8, .int (nI fg), f10, .ref a_level, .int (nI T.2.2.2.2), .ref a_order, .int (nI T.2.2.2.1), .ref a_stack, f16, f17, f18])), (a_firstIn, .inl (cI, 300, .inl (nF fi))), (a_secondIn, .inl (cI, 300, .inl (nF si))), (a_level, .inl (cI, 430, .inl (zF T.2.1))), (a_order, .inl (cI, 300, .inl (nF T.2.2.1))), (a_stack, .inl (cI, 300, .inl (nF T.1)))] s.heap := hP
  have hl := lv_entry ([.ref qd, .int (nI x)]) (n := 8) (Nat.le_of_ble_eq_true rfl)
  rw [lg_entry_eq]
  generalize (lg_sl ([.ref qd, .int (nI x)]) ++ List.replicate (8 - (lg_sl ([.ref qd, .int (nI x)])).length) Slot.unset).toArray = ls at hl ⊢
  have hl : lv_has ls 8 [(0, .ref qd), (1, .int (nI x))] := hl
  refine lv_aload_n hx hb d_Board_arrange_0 rfl (lv_at hl 0 rfl) ?_
  refine va_get (D := (dC, dI)) (ci := 9) (v := .ref a_stack) (C := R_Board) (T := F_Board) (N := 19) hx hb hts i_Board hown hK hP 0 rfl rfl 15 (by decide) (hts _ k_388) (fun _ h9 => h9) rfl d_Board_arrange_1 ?_
  refine lv_iconst (v := nI 0) hx hb d_Board_arrange_4 (by decide) ?_
  refine lv_iload_n hx hb d_Board_arrange_5 rfl (lv_at hl 1 rfl) ?_
  refine nv_iastN (x := x) hx hb hK hP hD hS 5 1 rfl rfl (by omega) (by decide) d_Board_arrange_6 (fun H locs hP hD hS => ?_)
  have hP : va_P (dC, dI) cl [(qd, .inr (9, [f0, f1, f2, f3, f4, .ref a_firstIn, .ref a_secondIn, f7, f8, .int (nI fg), f10, .ref a_level, .int (nI T.2.2.2.2), .ref a_order, .int (nI T.2.2.2.1), .ref a_stack, f16, f17, f18])), (a_firstIn, .inl (cI, 300, .inl (nF fi))), (a_secondIn, .inl (cI, 300, .inl (nF si))), (a_level, .inl (cI, 430, .inl (zF T.2.1))), (a_order, .inl (cI, 300, .inl (nF T.2.2.1))), (a_stack, .inl (cI, 300, .inl (nF (va_up T.1 0 x))))] H := hP
  have hD : va_D A [(qd, .inr (9, [f0, f1, f2, f3, f4, .ref a_firstIn, .ref a_secondIn, f7, f8, .int (nI fg), f10, .ref a_level, .int (nI T.2.2.2.2), .ref a_order, .int (nI T.2.2.2.1), .ref a_stack, f16, f17, f18])), (a_firstIn, .inl (cI, 300, .inl (nF fi))), (a_secondIn, .inl (cI, 300, .inl (nF si))), (a_level, .inl (cI, 430, .inl (zF T.2.1))), (a_order, .inl (cI, 300, .inl (nF T.2.2.1))), (a_stack, .inl (cI, 300, .inl (nF (va_up T.1 0 x))))] := hD
  refine lv_aload_n hx hb d_Board_arrange_7 rfl (lv_at hl 0 rfl) ?_
  refine va_get (D := (dC, dI)) (ci := 9) (v := .ref a_level) (C := R_Board) (T := F_Board) (N := 19) hx hb hts i_Board hown hK hP 0 rfl rfl 11 (by decide) (hts _ k_384) (fun _ h9 => h9) rfl d_Board_arrange_8 ?_
  refine lv_aload_n hx hb d_Board_arrange_11 rfl (lv_at hl 0 rfl) ?_
  refine va_get (D := (dC, dI)) (ci := 9) (v := .int (nI fg)) (C := R_Board) (T := F_Board) (N := 19) hx hb hts i_Board hown hK hP 0 rfl rfl 9 (by decide) (hts _ k_382) (fun _ h9 => h9) rfl d_Board_arrange_12 ?_
  refine lv_iload_n hx hb d_Board_arrange_15 rfl (lv_at hl 1 rfl) ?_
  refine nv_iadd hx hb d_Board_arrange_16 ?_
  refine lv_bipush (v := (-2)) hx hb d_Board_arrange_17 (by decide) ?_
  refine nv_iastC (x := 0) hx hb hK hP hD hS 3 1 rfl rfl (by omega) (by decide) d_Board_arrange_19 (fun H locs hP hD hS => ?_)
  have hP : va_P (dC, dI) cl [(qd, .inr (9, [f0, f1, f2, f3, f4, .ref a_firstIn, .ref a_secondIn, f7, f8, .int (nI fg), f10, .ref a_level, .int (nI T.2.2.2.2), .ref a_order, .int (nI T.2.2.2.1), .ref a_stack, f16, f17, f18])), (a_firstIn, .inl (cI, 300, .inl (nF fi))), (a_secondIn, .inl (cI, 300, .inl (nF si))), (a_level, .inl (cI, 430, .inl (zF (va_up T.2.1 (fg + x) 0)))), (a_order, .inl (cI, 300, .inl (nF T.2.2.1))), (a_stack, .inl (cI, 300, .inl (nF (va_up T.1 0 x))))] H := hP
  have hD : va_D A [(qd, .inr (9, [f0, f1, f2, f3, f4, .ref a_firstIn, .ref a_secondIn, f7, f8, .int (nI fg), f10, .ref a_level, .int (nI T.2.2.2.2), .ref a_order, .int (nI T.2.2.2.1), .ref a_stack, f16, f17, f18])), (a_firstIn, .inl (cI, 300, .inl (nF fi))), (a_secondIn, .inl (cI, 300, .inl (nF si))), (a_level, .inl (cI, 430, .inl (zF (va_up T.2.1 (fg + x) 0)))), (a_order, .inl (cI, 300, .inl (nF T.2.2.1))), (a_stack, .inl (cI, 300, .inl (nF (va_up T.1 0 x))))] := hD
  refine lv_iconst (v := nI 1) hx hb d_Board_arrange_20 (by decide) ?_
  refine lv_istore_n (lv' := [(2, .int (nI 1)), (0, .ref qd), (1, .int (nI x))]) hx hb d_Board_arrange_21 rfl hl (by decide) rfl (fun ls hl => ?_)
  refine lv_iconst (v := nI 0) hx hb d_Board_arrange_22 (by decide) ?_
  refine lv_istore_n (lv' := [(3, .int (nI 0)), (2, .int (nI 1)), (0, .ref qd), (1, .int (nI x))]) hx hb d_Board_arrange_23 rfl hl (by decide) rfl (fun ls hl => ?_)
  refine lp_Board_arrange (F := (ar fi si fg 900 1 (ar_0 fg x T))) hng hfg hf hs hx hb hml hown hts hA hF hK (fun H locs ls hq9 hP hD hS hl => ?_) (fun H locs ls hq9 hP hD hS hl => ?_) 901 0 1 (ar_0 fg x T) _ _ ls (by omega) (by omega) (hi.start hx0 h1) rfl hP hD hS (lv_sub hl [0, 1, 3, 2] rfl)
  · refine lv_iconst (v := nI 1) hx hb d_Board_arrange_178 (by decide) ?_
    exact wr_z (x := true) hx hb hr hlocks (ar fi si fg 900 1 (ar_0 fg x T)) ⟨by rw [hq9], rfl⟩ hK hP hD hS d_Board_arrange_179
  · refine lv_iconst (v := nI 0) hx hb d_Board_arrange_87 (by decide) ?_
    exact wr_z (x := false) hx hb hr hlocks (ar fi si fg 900 1 (ar_0 fg x T)) ⟨by rw [hq9], rfl⟩ hK hP hD hS d_Board_arrange_88
theorem d_Board_arrangeAll_0 : decode b_Board_arrangeAll 0 = .ok (.aload_n 0, 1) := by decide +kernel
theorem d_Board_arrangeAll_1 : decode b_Board_arrangeAll 1 = .ok (.iconst 0, 1) := by decide +kernel
theorem d_Board_arrangeAll_2 : decode b_Board_arrangeAll 2 = .ok (.putfield 59, 3) := by decide +kernel
theorem d_Board_arrangeAll_5 : decode b_Board_arrangeAll 5 = .ok (.aload_n 0, 1) := by decide +kernel
theorem d_Board_arrangeAll_6 : decode b_Board_arrangeAll 6 = .ok (.iconst 0, 1) := by decide +kernel
theorem d_Board_arrangeAll_7 : decode b_Board_arrangeAll 7 = .ok (.putfield 53, 3) := by decide +kernel
theorem d_Board_arrangeAll_10 : decode b_Board_arrangeAll 10 = .ok (.iconst 0, 1) := by decide +kernel
theorem d_Board_arrangeAll_11 : decode b_Board_arrangeAll 11 = .ok (.istore_n 1, 1) := by decide +kernel
theorem d_Board_arrangeAll_12 : decode b_Board_arrangeAll 12 = .ok (.iload_n 1, 1) := by decide +kernel
theorem d_Board_arrangeAll_13 : decode b_Board_arrangeAll 13 = .ok (.aload_n 0, 1) := by decide +kernel
theorem d_Board_arrangeAll_14 : decode b_Board_arrangeAll 14 = .ok (.getfield 38, 3) := by decide +kernel
theorem d_Board_arrangeAll_17 : decode b_Board_arrangeAll 17 = .ok (.if_icmp .ge 34, 3) := by decide +kernel
theorem d_Board_arrangeAll_20 : decode b_Board_arrangeAll 20 = .ok (.aload_n 0, 1) := by decide +kernel
theorem d_Board_arrangeAll_21 : decode b_Board_arrangeAll 21 = .ok (.getfield 50, 3) := by decide +kernel
theorem d_Board_arrangeAll_24 : decode b_Board_arrangeAll 24 = .ok (.aload_n 0, 1) := by decide +kernel
theorem d_Board_arrangeAll_25 : decode b_Board_arrangeAll 25 = .ok (.getfield 44, 3) := by decide +kernel
theorem d_Board_arrangeAll_28 : decode b_Board_arrangeAll 28 = .ok (.iload_n 1, 1) := by decide +kernel
theorem d_Board_arrangeAll_29 : decode b_Board_arrangeAll 29 = .ok (.iadd, 1) := by decide +kernel
theorem d_Board_arrangeAll_30 : decode b_Board_arrangeAll 30 = .ok (.iaload, 1) := by decide +kernel
theorem d_Board_arrangeAll_31 : decode b_Board_arrangeAll 31 = .ok (.iconst (-1), 1) := by decide +kernel
theorem d_Board_arrangeAll_32 : decode b_Board_arrangeAll 32 = .ok (.if_icmp .ne 13, 3) := by decide +kernel
theorem d_Board_arrangeAll_35 : decode b_Board_arrangeAll 35 = .ok (.aload_n 0, 1) := by decide +kernel
theorem d_Board_arrangeAll_36 : decode b_Board_arrangeAll 36 = .ok (.iload_n 1, 1) := by decide +kernel
theorem d_Board_arrangeAll_37 : decode b_Board_arrangeAll 37 = .ok (.invokevirtual 176, 3) := by decide +kernel
theorem d_Board_arrangeAll_40 : decode b_Board_arrangeAll 40 = .ok (.ifCond .ne 5, 3) := by decide +kernel
theorem d_Board_arrangeAll_43 : decode b_Board_arrangeAll 43 = .ok (.iconst 0, 1) := by decide +kernel
theorem d_Board_arrangeAll_44 : decode b_Board_arrangeAll 44 = .ok (.ireturn, 1) := by decide +kernel
theorem d_Board_arrangeAll_45 : decode b_Board_arrangeAll 45 = .ok (.iinc 1 1, 3) := by decide +kernel
theorem d_Board_arrangeAll_48 : decode b_Board_arrangeAll 48 = .ok (.goto (-36), 3) := by decide +kernel
theorem d_Board_arrangeAll_51 : decode b_Board_arrangeAll 51 = .ok (.iconst 1, 1) := by decide +kernel
theorem d_Board_arrangeAll_52 : decode b_Board_arrangeAll 52 = .ok (.ireturn, 1) := by decide +kernel
set_option maxHeartbeats 4000000 in
set_option maxRecDepth 100000 in
theorem lp_Board_arrangeAll {p : Program} {l : Launch} {e : Env} {s : State} {m : MethodId} {args : Array Value} {below : List Frame} {meth : Method} {c : Code} {Q : State → Prop} {A : Nat → Prop} {dC : Nat → ClassId} {dI : Nat → Nat → Nat} {cB cI cL cZ cC cO : ClassId} {qd a_firstIn a_secondIn a_level a_order a_stack : Nat}{f0 f1 f2 f3 f4 f8 f10 f16 f17 f18 : Value} {fi si : Nat → Nat} {fg ng : Nat} {F : Bool × AS} (hng : ng ≤ 300) (hfg : fg ≤ 130) (hf : ∀ x, x < ng → fi x < fg + ng) (hs : ∀ x, x < ng → si x < fg + ng) (hx : p.tables.exec = Jvm.exec) (hb : c.code = b_Board_arrangeAll) (hml : c.maxLocals = 2) (hown : s.vm.findClass R_Board = some m.cls) (hts : ∀ w ∈ tb, w.before args s = true) (hA : ∀ q, s.heap.size ≤ q → A q) (hF : stF A s) (hK : va_K (dC, dI) cl [(cB, .byte), (cI, .int), (cL, .long), (cZ, .boolean), (cC, .char), (cO, .object "java/lang/Object")] s)
    (kx1 : ∀  (H : Heap) (locs : List Loc) (ls : Array Slot), F.1 = true → va_P (dC, dI) cl [(qd, .inr (9, [f0, f1, f2, f3, f4, .ref a_firstIn, .ref a_secondIn, .int (nI ng), f8, .int (nI fg), f10, .ref a_level, .int (nI F.2.2.2.2.2), .ref a_order, .int (nI F.2.2.2.2.1), .ref a_stack, f16, f17, f18])), (a_firstIn, .inl (cI, 300, .inl (nF fi))), (a_secondIn, .inl (cI, 300, .inl (nF si))), (a_level, .inl (cI, 430, .inl (zF F.2.2.1))), (a_order, .inl (cI, 300, .inl (nF F.2.2.2.1))), (a_stack, .inl (cI, 300, .inl (nF F.2.1)))] H → va_D A [(qd, .inr (9, [f0, f1, f2, f3, f4, .ref a_firstIn, .ref a_secondIn, .int (nI ng), f8, .int (nI fg), f10, .ref a_level, .int (nI F.2.2.2.2.2), .ref a_order, .int (nI F.2.2.2.2.1), .ref a_stack, f16, f17, f18])), (a_firstIn, .inl (cI, 300, .inl (nF fi))), (a_secondIn, .inl (cI, 300, .inl (nF si))), (a_level, .inl (cI, 430, .inl (zF F.2.2.1))), (a_order, .inl (cI, 300, .inl (nF F.2.2.2.1))), (a_stack, .inl (cI, 300, .inl (nF F.2.1)))] → va_S A s.heap H locs → lv_has ls 2 [(0, .ref qd)] → W p l e (headSpec w_Board_arrangeAll { frames := 3, cells := 0, slots := 0, locals := 130 }).room s m args below meth c H locs 0 0 Q (F0 m 51 ls [])) (kx0 : ∀  (H : Heap) (locs : List Loc) (ls : Array Slot), F.1 = false → va_P (dC, dI) cl [(qd, .inr (9, [f0, f1, f2, f3, f4, .ref a_firstIn, .ref a_secondIn, .int (nI ng), f8, .int (nI fg), f10, .ref a_level, .int (nI F.2.2.2.2.2), .ref a_order, .int (nI F.2.2.2.2.1), .ref a_stack, f16, f17, f18])), (a_firstIn, .inl (cI, 300, .inl (nF fi))), (a_secondIn, .inl (cI, 300, .inl (nF si))), (a_level, .inl (cI, 430, .inl (zF F.2.2.1))), (a_order, .inl (cI, 300, .inl (nF F.2.2.2.1))), (a_stack, .inl (cI, 300, .inl (nF F.2.1)))] H → va_D A [(qd, .inr (9, [f0, f1, f2, f3, f4, .ref a_firstIn, .ref a_secondIn, .int (nI ng), f8, .int (nI fg), f10, .ref a_level, .int (nI F.2.2.2.2.2), .ref a_order, .int (nI F.2.2.2.2.1), .ref a_stack, f16, f17, f18])), (a_firstIn, .inl (cI, 300, .inl (nF fi))), (a_secondIn, .inl (cI, 300, .inl (nF si))), (a_level, .inl (cI, 430, .inl (zF F.2.2.1))), (a_order, .inl (cI, 300, .inl (nF F.2.2.2.1))), (a_stack, .inl (cI, 300, .inl (nF F.2.1)))] → va_S A s.heap H locs → lv_has ls 2 [(0, .ref qd)] → W p l e (headSpec w_Board_arrangeAll { frames := 3, cells := 0, slots := 0, locals := 130 }).room s m args below meth c H locs 0 0 Q (F0 m 43 ls [])) :
    ∀ (k : Nat) (i : Nat) (T : AS) (H : Heap) (locs : List Loc) (ls : Array Slot), ng < i + k → i ≤ ng → AI fg ng 0 T → ara fi si fg (ng - i) i T = F → va_P (dC, dI) cl [(qd, .inr (9, [f0, f1, f2, f3, f4, .ref a_firstIn, .ref a_secondIn, .int (nI ng), f8, .int (nI fg), f10, .ref a_level, .int (nI T.2.2.2.2), .ref a_order, .int (nI T.2.2.2.1), .ref a_stack, f16, f17, f18])), (a_firstIn, .inl (cI, 300, .inl (nF fi))), (a_secondIn, .inl (cI, 300, .inl (nF si))), (a_level, .inl (cI, 430, .inl (zF T.2.1))), (a_order, .inl (cI, 300, .inl (nF T.2.2.1))), (a_stack, .inl (cI, 300, .inl (nF T.1)))] H → va_D A [(qd, .inr (9, [f0, f1, f2, f3, f4, .ref a_firstIn, .ref a_secondIn, .int (nI ng), f8, .int (nI fg), f10, .ref a_level, .int (nI T.2.2.2.2), .ref a_order, .int (nI T.2.2.2.1), .ref a_stack, f16, f17, f18])), (a_firstIn, .inl (cI, 300, .inl (nF fi))), (a_secondIn, .inl (cI, 300, .inl (nF si))), (a_level, .inl (cI, 430, .inl (zF T.2.1))), (a_order, .inl (cI, 300, .inl (nF T.2.2.1))), (a_stack, .inl (cI, 300, .inl (nF T.1)))] → va_S A s.heap H locs → lv_has ls 2 [(1, .int (nI i)), (0, .ref qd)] → W p l e (headSpec w_Board_arrangeAll { frames := 3, cells := 0, slots := 0, locals := 130 }).room s m args below meth c H locs 0 0 Q (F0 m 12 ls []) := by
  intro k
  induction k with
  | zero =>
    intro i T H locs ls hk hn hi hr hP hD hS hl
    exfalso; omega
  | succ k ih =>
    intro i T H locs ls hk hn hi hr hP hD hS hl
    refine lv_iload_n hx hb d_Board_arrangeAll_12 rfl (lv_at hl 0 rfl) ?_
    refine lv_aload_n hx hb d_Board_arrangeAll_13 rfl (lv_at hl 1 rfl) ?_
    refine va_get (D := (dC, dI)) (ci := 9) (v := .int (nI ng)) (C := R_Board) (T := F_Board) (N := 19) hx hb hts i_Board hown hK hP 0 rfl rfl 7 (by decide) (hts _ k_380) (fun _ h9 => h9) rfl d_Board_arrangeAll_14 ?_
    refine nv_icmp_ge (tgt := 51) hx hb (by omega) (by omega) d_Board_arrangeAll_17 (by decide) (fun c_1 => ?_) (fun c_1 => ?_)
    · have hq : (true, T) = F := by rw [← hr, ara_u, if_neg (by omega)]
      subst hq
      exact kx1 H locs ls rfl hP hD hS (lv_sub hl [1] rfl)
    · have hle := hi.le
      have hl1 := hi.2.2.2.2.2.1 (fg + i) (by omega)
      refine lv_aload_n hx hb d_Board_arrangeAll_20 rfl (lv_at hl 1 rfl) ?_
      refine va_get (D := (dC, dI)) (ci := 9) (v := .ref a_level) (C := R_Board) (T := F_Board) (N := 19) hx hb hts i_Board hown hK hP 0 rfl rfl 11 (by decide) (hts _ k_384) (fun _ h9 => h9) rfl d_Board_arrangeAll_21 ?_
      refine lv_aload_n hx hb d_Board_arrangeAll_24 rfl (lv_at hl 1 rfl) ?_
      refine va_get (D := (dC, dI)) (ci := 9) (v := .int (nI fg)) (C := R_Board) (T := F_Board) (N := 19) hx hb hts i_Board hown hK hP 0 rfl rfl 9 (by decide) (hts _ k_382) (fun _ h9 => h9) rfl d_Board_arrangeAll_25 ?_
      refine lv_iload_n hx hb d_Board_arrangeAll_28 rfl (lv_at hl 0 rfl) ?_
      refine nv_iadd hx hb d_Board_arrangeAll_29 ?_
      refine nv_iald hx hb hK hP 3 1 rfl rfl (by omega) (by decide) d_Board_arrangeAll_30 ?_
      refine lv_iconst (v := (-1)) hx hb d_Board_arrangeAll_31 (by decide) ?_
      refine nv_cicmp_ne (tgt := 45) hx hb (by omega) d_Board_arrangeAll_32 (by decide) (fun c_2 => ?_) (fun c_2 => ?_)
      · refine lv_iinc (v := nI (i + 1)) (lv' := [(1, .int (nI (i + 1))), (0, .ref qd)]) hx hb d_Board_arrangeAll_45 hl (k := 0) rfl (nI_1 _) (by decide) rfl (fun ls hl => ?_)
        refine lv_goto (tgt := 12) hx hb d_Board_arrangeAll_48 (by decide) ?_
        exact ih (i + 1) T H locs ls (by omega) (by omega) hi (by rw [← hr, ara_u fi si fg ng i, if_pos (by omega), if_neg c_2]) hP hD hS (lv_sub hl [0, 1] rfl)
      · refine lv_aload_n hx hb d_Board_arrangeAll_35 rfl (lv_at hl 1 rfl) ?_
        refine lv_iload_n hx hb d_Board_arrangeAll_36 rfl (lv_at hl 0 rfl) ?_
        refine wc_i (wc := [(qd, .inr (9, [f0, f1, f2, f3, f4, .ref a_firstIn, .ref a_secondIn, .int (nI ng), f8, .int (nI fg), f10, .ref a_level, .int (nI T.2.2.2.2), .ref a_order, .int (nI T.2.2.2.1), .ref a_stack, f16, f17, f18])), (a_firstIn, .inl (cI, 300, .inl (nF fi))), (a_secondIn, .inl (cI, 300, .inl (nF si))), (a_level, .inl (cI, 430, .inl (zF T.2.1))), (a_order, .inl (cI, 300, .inl (nF T.2.2.1))), (a_stack, .inl (cI, 300, .inl (nF T.1)))]) (wr := []) (va_runV (As := [.int (nI i)]) (rest := []) ⟨hx, hb, hml, hown, hts⟩ (c_Board_arrange l dC dI cB cI cL cZ cC cO fi si fg ng i T _ hng hfg hf hs hi (by omega) c_2) (cwV 1 hts (good_V k_813 k_815 s_Board_arrange k_18 k_816) rfl rfl rfl (by decide +kernel) ⟨Nat.le_of_ble_eq_true rfl, Nat.le_of_ble_eq_true rfl⟩) (wc_preV (k0 := 0) (ci := 9) (r := (R_Board, F_Board, 19)) hK hP hD hS hA hF [0, 1, 2, 3, 4, 5] (by decide) rfl rfl rfl) rfl rfl hl.1 rfl (lv_room (Nat.le_of_ble_eq_true rfl)) d_Board_arrangeAll_37 ⟨Nat.le_of_ble_eq_true rfl, Nat.le_of_ble_eq_true rfl⟩) hP hD hS hA [0, 1, 2, 3, 4, 5] [] rfl rfl (by decide) (by decide) (fun r_4 u H locs w_3 hP hD hS => ?_)
        have hP : va_P (dC, dI) cl [(qd, .inr (9, [f0, f1, f2, f3, f4, .ref a_firstIn, .ref a_secondIn, .int (nI ng), f8, .int (nI fg), f10, .ref a_level, .int (nI u.2.2.2.2.2), .ref a_order, .int (nI u.2.2.2.2.1), .ref a_stack, f16, f17, f18])), (a_firstIn, .inl (cI, 300, .inl (nF fi))), (a_secondIn, .inl (cI, 300, .inl (nF si))), (a_level, .inl (cI, 430, .inl (zF u.2.2.1))), (a_order, .inl (cI, 300, .inl (nF u.2.2.2.1))), (a_stack, .inl (cI, 300, .inl (nF u.2.1)))] H := hP
        have hD : va_D A [(qd, .inr (9, [f0, f1, f2, f3, f4, .ref a_firstIn, .ref a_secondIn, .int (nI ng), f8, .int (nI fg), f10, .ref a_level, .int (nI u.2.2.2.2.2), .ref a_order, .int (nI u.2.2.2.2.1), .ref a_stack, f16, f17, f18])), (a_firstIn, .inl (cI, 300, .inl (nF fi))), (a_secondIn, .inl (cI, 300, .inl (nF si))), (a_level, .inl (cI, 430, .inl (zF u.2.2.1))), (a_order, .inl (cI, 300, .inl (nF u.2.2.2.1))), (a_stack, .inl (cI, 300, .inl (nF u.2.1)))] := hD
        obtain ⟨r_4e, e_u⟩ := w_3
        subst r_4e
        refine nv_bif_ne (tgt := 45) hx hb d_Board_arrangeAll_40 (by decide) (fun c_5 => ?_) (fun c_5 => ?_)
        · refine lv_iinc (v := nI (i + 1)) (lv' := [(1, .int (nI (i + 1))), (0, .ref qd)]) hx hb d_Board_arrangeAll_45 hl (k := 0) rfl (nI_1 _) (by decide) rfl (fun ls hl => ?_)
          refine lv_goto (tgt := 12) hx hb d_Board_arrangeAll_48 (by decide) ?_
          have H2 : AI fg ng 0 u.2 := by rw [e_u]; exact ar_end hf hs 900 1 _ (hi.start (by omega) c_2) (by show 2 * (ng - 1 - T.2.2.2.1) + 1 < 900; omega) (by rw [← e_u]; exact c_5)
          exact ih (i + 1) u.2 H locs ls (by omega) (by omega) H2 (by rw [← hr, ara_u fi si fg ng i, if_pos (by omega), if_pos c_2, ← e_u, if_pos c_5]) hP hD hS (lv_sub hl [0, 1] rfl)
        · have hq : (false, u.2) = F := by rw [← hr, ara_u, if_pos (by omega), if_pos c_2, ← e_u, if_neg (by rw [c_5]; decide)]
          subst hq
          exact kx0 H locs ls rfl hP hD hS (lv_sub hl [1] rfl)
set_option maxHeartbeats 4000000 in
set_option maxRecDepth 100000 in
/-- arrangeAll() -/
theorem c_Board_arrangeAll (l : Launch) (dC : Nat → ClassId) (dI : Nat → Nat → Nat) (cB cI cL cZ cC cO : ClassId) {qd a_firstIn a_secondIn a_level a_order a_stack : Nat}{f0 f1 f2 f3 f4 f8 f10 f16 f17 f18 : Value} {f14 f12 : Value} (fi si : Nat → Nat) (fg ng : Nat) (T : AS) (sz : Nat) (hng : ng ≤ 300) (hfg : fg ≤ 130) (hf : ∀ x, x < ng → fi x < fg + ng) (hs : ∀ x, x < ng → si x < fg + ng) (hi : AI fg ng 0 ((T.1, T.2.1, T.2.2.1, 0, 0) : AS)) : Met l y_Board_arrangeAll w_Board_arrangeAll ({ frames := 3, cells := 0, slots := 0, locals := 130 }) (va_Pc [.ref qd] (wB (dC, dI) cl [(cB, .byte), (cI, .int), (cL, .long), (cZ, .boolean), (cC, .char), (cO, .object "java/lang/Object")] sz [(qd, .inr (9, [f0, f1, f2, f3, f4, .ref a_firstIn, .ref a_secondIn, .int (nI ng), f8, .int (nI fg), f10, .ref a_level, f12, .ref a_order, f14, .ref a_stack, f16, f17, f18])), (a_firstIn, .inl (cI, 300, .inl (nF fi))), (a_secondIn, .inl (cI, 300, .inl (nF si))), (a_level, .inl (cI, 430, .inl (zF T.2.1))), (a_order, .inl (cI, 300, .inl (nF T.2.2.1))), (a_stack, .inl (cI, 300, .inl (nF T.1)))])) (va_Qi (fun (r : Int32) (u : Bool × AS) => r = bI u.1 ∧ u = (ara fi si fg ng 0 ((T.1, T.2.1, T.2.2.1, 0, 0) : AS))) (fun u t => wA (dC, dI) cl [(cB, .byte), (cI, .int), (cL, .long), (cZ, .boolean), (cC, .char), (cO, .object "java/lang/Object")] (va_A [(qd, .inr (9, [f0, f1, f2, f3, f4, .ref a_firstIn, .ref a_secondIn, .int (nI ng), f8, .int (nI fg), f10, .ref a_level, f12, .ref a_order, f14, .ref a_stack, f16, f17, f18])), (a_firstIn, .inl (cI, 300, .inl (nF fi))), (a_secondIn, .inl (cI, 300, .inl (nF si))), (a_level, .inl (cI, 430, .inl (zF T.2.1))), (a_order, .inl (cI, 300, .inl (nF T.2.2.1))), (a_stack, .inl (cI, 300, .inl (nF T.1)))] sz) [(qd, .inr (9, [f0, f1, f2, f3, f4, .ref a_firstIn, .ref a_secondIn, .int (nI ng), f8, .int (nI fg), f10, .ref a_level, .int (nI u.2.2.2.2.2), .ref a_order, .int (nI u.2.2.2.2.1), .ref a_stack, f16, f17, f18])), (a_firstIn, .inl (cI, 300, .inl (nF fi))), (a_secondIn, .inl (cI, 300, .inl (nF si))), (a_level, .inl (cI, 430, .inl (zF u.2.2.1))), (a_order, .inl (cI, 300, .inl (nF u.2.2.2.1))), (a_stack, .inl (cI, 300, .inl (nF u.2.1)))] t) (va_A [(qd, .inr (9, [f0, f1, f2, f3, f4, .ref a_firstIn, .ref a_secondIn, .int (nI ng), f8, .int (nI fg), f10, .ref a_level, f12, .ref a_order, f14, .ref a_stack, f16, f17, f18])), (a_firstIn, .inl (cI, 300, .inl (nF fi))), (a_secondIn, .inl (cI, 300, .inl (nF si))), (a_level, .inl (cI, 430, .inl (zF T.2.1))), (a_order, .inl (cI, 300, .inl (nF T.2.2.1))), (a_stack, .inl (cI, 300, .inl (nF T.1)))] sz)) 0 0 (va_A [(qd, .inr (9, [f0, f1, f2, f3, f4, .ref a_firstIn, .ref a_secondIn, .int (nI ng), f8, .int (nI fg), f10, .ref a_level, f12, .ref a_order, f14, .ref a_stack, f16, f17, f18])), (a_firstIn, .inl (cI, 300, .inl (nF fi))), (a_secondIn, .inl (cI, 300, .inl (nF si))), (a_level, .inl (cI, 430, .inl (zF T.2.1))), (a_order, .inl (cI, 300, .inl (nF T.2.2.1))), (a_stack, .inl (cI, 300, .inl (nF T.1)))] sz) := by
  refine Met.ofW (cc := b_Board_arrangeAll) (maxL := 2) (ret := (some ClassFile.FieldType.boolean)) (by decide) rfl ?_
  intro p e s m args below meth c s₁ B hml hv
  obtain ⟨rfl, hsz, hP, hK, hD0, hF⟩ := hv
  have hx := B.exec
  have hb := B.bytes
  have hr := B.returns
  have hts := atoms_spec (ws := w_Board_arrangeAll) B.pre
  have hts : ∀ w ∈ tb, w.before _ s = true := fun w h => hts w (List.mem_cons_of_mem _ h)
  have hown : s.vm.findClass R_Board = some m.cls := findClass_of_methodNamed B.named
  have hlocks := B.notSynchronized
  subst hsz
  have hD := hD0.self (sz := s.heap.size)
  generalize hAe : va_A [(qd, .inr (9, [f0, f1, f2, f3, f4, .ref a_firstIn, .ref a_secondIn, .int (nI ng), f8, .int (nI fg), f10, .ref a_level, f12, .ref a_order, f14, .ref a_stack, f16, f17, f18])), (a_firstIn, .inl (cI, 300, .inl (nF fi))), (a_secondIn, .inl (cI, 300, .inl (nF si))), (a_level, .inl (cI, 430, .inl (zF T.2.1))), (a_order, .inl (cI, 300, .inl (nF T.2.2.1))), (a_stack, .inl (cI, 300, .inl (nF T.1)))] s.heap.size = A at hD hF ⊢
  have hA : ∀ q : Nat, s.heap.size ≤ q → A q := fun q h => by rw [← hAe]; exact Or.inr h
  have hS : va_S A s.heap s.heap [] := va_S.rf
  have hP : va_P (dC, dI) cl [(qd, .inr (9, [f0, f1, f2, f3, f4, .ref a_firstIn, .ref a_secondIn, .int (nI ng), f8, .int (nI fg), f10, .ref a_level, f12, .ref a_order, f14, .ref a_stack, f16, f17, f18])), (a_firstIn, .inl (cI, 300, .inl (nF fi))), (a_secondIn, .inl (cI, 300, .inl (nF si))), (a_level, .inl (cI, 430, .inl (zF T.2.1))), (a_order, .inl (cI, 300, .inl (nF T.2.2.1))), (a_stack, .inl (cI, 300, .inl (nF T.1)))] s.heap := hP
  have hl := lv_entry ([.ref qd]) (n := 2) (Nat.le_of_ble_eq_true rfl)
  rw [lg_entry_eq]
  generalize (lg_sl ([.ref qd]) ++ List.replicate (2 - (lg_sl ([.ref qd])).length) Slot.unset).toArray = ls at hl ⊢
  have hl : lv_has ls 2 [(0, .ref qd)] := hl
  refine lv_aload_n hx hb d_Board_arrangeAll_0 rfl (lv_at hl 0 rfl) ?_
  refine lv_iconst (v := nI 0) hx hb d_Board_arrangeAll_1 (by decide) ?_
  refine va_put (D := (dC, dI)) (ci := 9) (v := .int (nI 0)) (ty := .int) (C := R_Board) (T := F_Board) (N := 19) hx hb hts i_Board t_Board t_Board_ok n_Board hown hK hP hD hS 0 rfl rfl 14 (by decide) (hts _ k_387) (fun _ h9 => h9) rfl (by decide +kernel) rfl rfl (Nat.le_of_ble_eq_true rfl) d_Board_arrangeAll_2 (fun H locs hP hD hS => ?_)
  have hP : va_P (dC, dI) cl [(qd, .inr (9, [f0, f1, f2, f3, f4, .ref a_firstIn, .ref a_secondIn, .int (nI ng), f8, .int (nI fg), f10, .ref a_level, f12, .ref a_order, .int (nI 0), .ref a_stack, f16, f17, f18])), (a_firstIn, .inl (cI, 300, .inl (nF fi))), (a_secondIn, .inl (cI, 300, .inl (nF si))), (a_level, .inl (cI, 430, .inl (zF T.2.1))), (a_order, .inl (cI, 300, .inl (nF T.2.2.1))), (a_stack, .inl (cI, 300, .inl (nF T.1)))] H := hP
  have hD : va_D A [(qd, .inr (9, [f0, f1, f2, f3, f4, .ref a_firstIn, .ref a_secondIn, .int (nI ng), f8, .int (nI fg), f10, .ref a_level, f12, .ref a_order, .int (nI 0), .ref a_stack, f16, f17, f18])), (a_firstIn, .inl (cI, 300, .inl (nF fi))), (a_secondIn, .inl (cI, 300, .inl (nF si))), (a_level, .inl (cI, 430, .inl (zF T.2.1))), (a_order, .inl (cI, 300, .inl (nF T.2.2.1))), (a_stack, .inl (cI, 300, .inl (nF T.1)))] := hD
  refine lv_aload_n hx hb d_Board_arrangeAll_5 rfl (lv_at hl 0 rfl) ?_
  refine lv_iconst (v := nI 0) hx hb d_Board_arrangeAll_6 (by decide) ?_
  refine va_put (D := (dC, dI)) (ci := 9) (v := .int (nI 0)) (ty := .int) (C := R_Board) (T := F_Board) (N := 19) hx hb hts i_Board t_Board t_Board_ok n_Board hown hK hP hD hS 0 rfl rfl 12 (by decide) (hts _ k_385) (fun _ h9 => h9) rfl (by decide +kernel) rfl rfl (Nat.le_of_ble_eq_true rfl) d_Board_arrangeAll_7 (fun H locs hP hD hS => ?_)
  have hP : va_P (dC, dI) cl [(qd, .inr (9, [f0, f1, f2, f3, f4, .ref a_firstIn, .ref a_secondIn, .int (nI ng), f8, .int (nI fg), f10, .ref a_level, .int (nI 0), .ref a_order, .int (nI 0), .ref a_stack, f16, f17, f18])), (a_firstIn, .inl (cI, 300, .inl (nF fi))), (a_secondIn, .inl (cI, 300, .inl (nF si))), (a_level, .inl (cI, 430, .inl (zF T.2.1))), (a_order, .inl (cI, 300, .inl (nF T.2.2.1))), (a_stack, .inl (cI, 300, .inl (nF T.1)))] H := hP
  have hD : va_D A [(qd, .inr (9, [f0, f1, f2, f3, f4, .ref a_firstIn, .ref a_secondIn, .int (nI ng), f8, .int (nI fg), f10, .ref a_level, .int (nI 0), .ref a_order, .int (nI 0), .ref a_stack, f16, f17, f18])), (a_firstIn, .inl (cI, 300, .inl (nF fi))), (a_secondIn, .inl (cI, 300, .inl (nF si))), (a_level, .inl (cI, 430, .inl (zF T.2.1))), (a_order, .inl (cI, 300, .inl (nF T.2.2.1))), (a_stack, .inl (cI, 300, .inl (nF T.1)))] := hD
  refine lv_iconst (v := nI 0) hx hb d_Board_arrangeAll_10 (by decide) ?_
  refine lv_istore_n (lv' := [(1, .int (nI 0)), (0, .ref qd)]) hx hb d_Board_arrangeAll_11 rfl hl (by decide) rfl (fun ls hl => ?_)
  refine lp_Board_arrangeAll (F := (ara fi si fg ng 0 ((T.1, T.2.1, T.2.2.1, 0, 0) : AS))) hng hfg hf hs hx hb hml hown hts hA hF hK (fun H locs ls hq9 hP hD hS hl => ?_) (fun H locs ls hq9 hP hD hS hl => ?_) (ng + 1) 0 ((T.1, T.2.1, T.2.2.1, 0, 0) : AS) _ _ ls (by omega) (by omega) hi rfl hP hD hS (lv_sub hl [0, 1] rfl)
  · refine lv_iconst (v := nI 1) hx hb d_Board_arrangeAll_51 (by decide) ?_
    exact wr_z (x := true) hx hb hr hlocks (ara fi si fg ng 0 ((T.1, T.2.1, T.2.2.1, 0, 0) : AS)) ⟨by rw [hq9], rfl⟩ hK hP hD hS d_Board_arrangeAll_52
  · refine lv_iconst (v := nI 0) hx hb d_Board_arrangeAll_43 (by decide) ?_
    exact wr_z (x := false) hx hb hr hlocks (ara fi si fg ng 0 ((T.1, T.2.1, T.2.2.1, 0, 0) : AS)) ⟨by rw [hq9], rfl⟩ hK hP hD hS d_Board_arrangeAll_44
theorem d_Board_startSignals_0 : decode b_Board_startSignals 0 = .ok (.aload_n 0, 1) := by decide +kernel
theorem d_Board_startSignals_1 : decode b_Board_startSignals 1 = .ok (.getfield 47, 3) := by decide +kernel
theorem d_Board_startSignals_4 : decode b_Board_startSignals 4 = .ok (.iconst 1, 1) := by decide +kernel
theorem d_Board_startSignals_5 : decode b_Board_startSignals 5 = .ok (.iconst 1, 1) := by decide +kernel
theorem d_Board_startSignals_6 : decode b_Board_startSignals 6 = .ok (.bastore, 1) := by decide +kernel
theorem d_Board_startSignals_7 : decode b_Board_startSignals 7 = .ok (.iconst 0, 1) := by decide +kernel
theorem d_Board_startSignals_8 : decode b_Board_startSignals 8 = .ok (.istore_n 2, 1) := by decide +kernel
theorem d_Board_startSignals_9 : decode b_Board_startSignals 9 = .ok (.iload_n 2, 1) := by decide +kernel
theorem d_Board_startSignals_10 : decode b_Board_startSignals 10 = .ok (.iload_n 1, 1) := by decide +kernel
theorem d_Board_startSignals_11 : decode b_Board_startSignals 11 = .ok (.if_icmp .ge 38, 3) := by decide +kernel
theorem d_Board_startSignals_14 : decode b_Board_startSignals 14 = .ok (.aload_n 0, 1) := by decide +kernel
theorem d_Board_startSignals_15 : decode b_Board_startSignals 15 = .ok (.getfield 21, 3) := by decide +kernel
theorem d_Board_startSignals_18 : decode b_Board_startSignals 18 = .ok (.iload_n 2, 1) := by decide +kernel
theorem d_Board_startSignals_19 : decode b_Board_startSignals 19 = .ok (.iconst 2, 1) := by decide +kernel
theorem d_Board_startSignals_20 : decode b_Board_startSignals 20 = .ok (.iload_n 2, 1) := by decide +kernel
theorem d_Board_startSignals_21 : decode b_Board_startSignals 21 = .ok (.iadd, 1) := by decide +kernel
theorem d_Board_startSignals_22 : decode b_Board_startSignals 22 = .ok (.iconst (-1), 1) := by decide +kernel
theorem d_Board_startSignals_23 : decode b_Board_startSignals 23 = .ok (.ixor, 1) := by decide +kernel
theorem d_Board_startSignals_24 : decode b_Board_startSignals 24 = .ok (.iastore, 1) := by decide +kernel
theorem d_Board_startSignals_25 : decode b_Board_startSignals 25 = .ok (.aload_n 0, 1) := by decide +kernel
theorem d_Board_startSignals_26 : decode b_Board_startSignals 26 = .ok (.getfield 47, 3) := by decide +kernel
theorem d_Board_startSignals_29 : decode b_Board_startSignals 29 = .ok (.iconst 2, 1) := by decide +kernel
theorem d_Board_startSignals_30 : decode b_Board_startSignals 30 = .ok (.iload_n 2, 1) := by decide +kernel
theorem d_Board_startSignals_31 : decode b_Board_startSignals 31 = .ok (.iadd, 1) := by decide +kernel
theorem d_Board_startSignals_32 : decode b_Board_startSignals 32 = .ok (.iconst 0, 1) := by decide +kernel
theorem d_Board_startSignals_33 : decode b_Board_startSignals 33 = .ok (.bastore, 1) := by decide +kernel
theorem d_Board_startSignals_34 : decode b_Board_startSignals 34 = .ok (.aload_n 0, 1) := by decide +kernel
theorem d_Board_startSignals_35 : decode b_Board_startSignals 35 = .ok (.getfield 50, 3) := by decide +kernel
theorem d_Board_startSignals_38 : decode b_Board_startSignals 38 = .ok (.iconst 2, 1) := by decide +kernel
theorem d_Board_startSignals_39 : decode b_Board_startSignals 39 = .ok (.iload_n 2, 1) := by decide +kernel
theorem d_Board_startSignals_40 : decode b_Board_startSignals 40 = .ok (.iadd, 1) := by decide +kernel
theorem d_Board_startSignals_41 : decode b_Board_startSignals 41 = .ok (.iconst 0, 1) := by decide +kernel
theorem d_Board_startSignals_42 : decode b_Board_startSignals 42 = .ok (.iastore, 1) := by decide +kernel
theorem d_Board_startSignals_43 : decode b_Board_startSignals 43 = .ok (.iinc 2 1, 3) := by decide +kernel
theorem d_Board_startSignals_46 : decode b_Board_startSignals 46 = .ok (.goto (-37), 3) := by decide +kernel
theorem d_Board_startSignals_49 : decode b_Board_startSignals 49 = .ok (.return_, 1) := by decide +kernel
set_option maxHeartbeats 4000000 in
set_option maxRecDepth 100000 in
theorem lp_Board_startSignals {p : Program} {l : Launch} {e : Env} {s : State} {m : MethodId} {args : Array Value} {below : List Frame} {meth : Method} {c : Code} {Q : State → Prop} {A : Nat → Prop} {dC : Nat → ClassId} {dI : Nat → Nat → Nat} {cB cI cL cZ cC cO : ClassId} {qd a_from a_value a_level : Nat}{f0 f1 f3 f4 f5 f6 f7 f8 f9 f12 f13 f14 f15 f16 f17 f18 : Value} {ib : Nat} {F : (Nat → Nat ⊕ Nat) × (Nat → Bool) × (Nat → Nat)} (hib : ib ≤ 128) (hx : p.tables.exec = Jvm.exec) (hb : c.code = b_Board_startSignals) (hml : c.maxLocals = 3) (hown : s.vm.findClass R_Board = some m.cls) (hts : ∀ w ∈ tb, w.before args s = true) (hA : ∀ q, s.heap.size ≤ q → A q) (hF : stF A s) (hK : va_K (dC, dI) cl [(cB, .byte), (cI, .int), (cL, .long), (cZ, .boolean), (cC, .char), (cO, .object "java/lang/Object")] s)
    (kx : ∀  (H : Heap) (locs : List Loc) (ls : Array Slot), va_P (dC, dI) cl [(qd, .inr (9, [f0, f1, .ref a_from, f3, f4, f5, f6, f7, f8, f9, .ref a_value, .ref a_level, f12, f13, f14, f15, f16, f17, f18])), (a_from, .inl (cI, 8000, .inl (xF F.1))), (a_value, .inl (cZ, 430, .inl (bF F.2.1))), (a_level, .inl (cI, 430, .inl (zF F.2.2)))] H → va_D A [(qd, .inr (9, [f0, f1, .ref a_from, f3, f4, f5, f6, f7, f8, f9, .ref a_value, .ref a_level, f12, f13, f14, f15, f16, f17, f18])), (a_from, .inl (cI, 8000, .inl (xF F.1))), (a_value, .inl (cZ, 430, .inl (bF F.2.1))), (a_level, .inl (cI, 430, .inl (zF F.2.2)))] → va_S A s.heap H locs → lv_has ls 3 [(0, .ref qd)] → W p l e (headSpec w_Board_startSignals { frames := 0, cells := 0, slots := 0, locals := 0 }).room s m args below meth c H locs 0 0 Q (F0 m 49 ls [])) :
    ∀ (k : Nat) (i : Nat) (fr : Nat → Nat ⊕ Nat) (va : Nat → Bool) (lev : Nat → Nat) (H : Heap) (locs : List Loc) (ls : Array Slot), ib < i + k → i ≤ ib → ssg ib (ib - i) i (fr, va, lev) = F → va_P (dC, dI) cl [(qd, .inr (9, [f0, f1, .ref a_from, f3, f4, f5, f6, f7, f8, f9, .ref a_value, .ref a_level, f12, f13, f14, f15, f16, f17, f18])), (a_from, .inl (cI, 8000, .inl (xF fr))), (a_value, .inl (cZ, 430, .inl (bF va))), (a_level, .inl (cI, 430, .inl (zF lev)))] H → va_D A [(qd, .inr (9, [f0, f1, .ref a_from, f3, f4, f5, f6, f7, f8, f9, .ref a_value, .ref a_level, f12, f13, f14, f15, f16, f17, f18])), (a_from, .inl (cI, 8000, .inl (xF fr))), (a_value, .inl (cZ, 430, .inl (bF va))), (a_level, .inl (cI, 430, .inl (zF lev)))] → va_S A s.heap H locs → lv_has ls 3 [(2, .int (nI i)), (1, .int (nI ib)), (0, .ref qd)] → W p l e (headSpec w_Board_startSignals { frames := 0, cells := 0, slots := 0, locals := 0 }).room s m args below meth c H locs 0 0 Q (F0 m 9 ls []) := by
  intro k
  induction k with
  | zero =>
    intro i fr va lev H locs ls hk hi hr hP hD hS hl
    exfalso; omega
  | succ k ih =>
    intro i fr va lev H locs ls hk hi hr hP hD hS hl
    refine lv_iload_n hx hb d_Board_startSignals_9 rfl (lv_at hl 0 rfl) ?_
    refine lv_iload_n hx hb d_Board_startSignals_10 rfl (lv_at hl 1 rfl) ?_
    refine nv_icmp_ge (tgt := 49) hx hb (by omega) (by omega) d_Board_startSignals_11 (by decide) (fun c_1 => ?_) (fun c_1 => ?_)
    · have hq : (fr, va, lev) = F := by rw [← hr, ssg_u, if_neg (by omega)]
      subst hq
      exact kx H locs ls hP hD hS (lv_sub hl [2] rfl)
    · refine lv_aload_n hx hb d_Board_startSignals_14 rfl (lv_at hl 2 rfl) ?_
      refine va_get (D := (dC, dI)) (ci := 9) (v := .ref a_from) (C := R_Board) (T := F_Board) (N := 19) hx hb hts i_Board hown hK hP 0 rfl rfl 2 (by decide) (hts _ k_375) (fun _ h9 => h9) rfl d_Board_startSignals_15 ?_
      refine lv_iload_n hx hb d_Board_startSignals_18 rfl (lv_at hl 0 rfl) ?_
      refine lv_iconst (v := nI 2) hx hb d_Board_startSignals_19 (by decide) ?_
      refine lv_iload_n hx hb d_Board_startSignals_20 rfl (lv_at hl 0 rfl) ?_
      refine nv_iadd hx hb d_Board_startSignals_21 ?_
      refine lv_iconst (v := (-1)) hx hb d_Board_startSignals_22 (by decide) ?_
      refine lv_ixor hx hb d_Board_startSignals_23 ?_
      refine nv_iastX (x := .inr (2 + i)) hx hb hK hP hD hS 1 1 rfl rfl (by omega) (by decide) d_Board_startSignals_24 (fun H locs hP hD hS => ?_)
      have hP : va_P (dC, dI) cl [(qd, .inr (9, [f0, f1, .ref a_from, f3, f4, f5, f6, f7, f8, f9, .ref a_value, .ref a_level, f12, f13, f14, f15, f16, f17, f18])), (a_from, .inl (cI, 8000, .inl (xF (va_up fr i (.inr (2 + i)))))), (a_value, .inl (cZ, 430, .inl (bF va))), (a_level, .inl (cI, 430, .inl (zF lev)))] H := hP
      have hD : va_D A [(qd, .inr (9, [f0, f1, .ref a_from, f3, f4, f5, f6, f7, f8, f9, .ref a_value, .ref a_level, f12, f13, f14, f15, f16, f17, f18])), (a_from, .inl (cI, 8000, .inl (xF (va_up fr i (.inr (2 + i)))))), (a_value, .inl (cZ, 430, .inl (bF va))), (a_level, .inl (cI, 430, .inl (zF lev)))] := hD
      refine lv_aload_n hx hb d_Board_startSignals_25 rfl (lv_at hl 2 rfl) ?_
      refine va_get (D := (dC, dI)) (ci := 9) (v := .ref a_value) (C := R_Board) (T := F_Board) (N := 19) hx hb hts i_Board hown hK hP 0 rfl rfl 10 (by decide) (hts _ k_383) (fun _ h9 => h9) rfl d_Board_startSignals_26 ?_
      refine lv_iconst (v := nI 2) hx hb d_Board_startSignals_29 (by decide) ?_
      refine lv_iload_n hx hb d_Board_startSignals_30 rfl (lv_at hl 0 rfl) ?_
      refine nv_iadd hx hb d_Board_startSignals_31 ?_
      refine lv_iconst (v := nI 0) hx hb d_Board_startSignals_32 (by decide) ?_
      refine nv_zastB (x := false) hx hb hK hP hD hS 2 3 rfl rfl (by omega) (by decide) d_Board_startSignals_33 (fun H locs hP hD hS => ?_)
      have hP : va_P (dC, dI) cl [(qd, .inr (9, [f0, f1, .ref a_from, f3, f4, f5, f6, f7, f8, f9, .ref a_value, .ref a_level, f12, f13, f14, f15, f16, f17, f18])), (a_from, .inl (cI, 8000, .inl (xF (va_up fr i (.inr (2 + i)))))), (a_value, .inl (cZ, 430, .inl (bF (va_up va (2 + i) false)))), (a_level, .inl (cI, 430, .inl (zF lev)))] H := hP
      have hD : va_D A [(qd, .inr (9, [f0, f1, .ref a_from, f3, f4, f5, f6, f7, f8, f9, .ref a_value, .ref a_level, f12, f13, f14, f15, f16, f17, f18])), (a_from, .inl (cI, 8000, .inl (xF (va_up fr i (.inr (2 + i)))))), (a_value, .inl (cZ, 430, .inl (bF (va_up va (2 + i) false)))), (a_level, .inl (cI, 430, .inl (zF lev)))] := hD
      refine lv_aload_n hx hb d_Board_startSignals_34 rfl (lv_at hl 2 rfl) ?_
      refine va_get (D := (dC, dI)) (ci := 9) (v := .ref a_level) (C := R_Board) (T := F_Board) (N := 19) hx hb hts i_Board hown hK hP 0 rfl rfl 11 (by decide) (hts _ k_384) (fun _ h9 => h9) rfl d_Board_startSignals_35 ?_
      refine lv_iconst (v := nI 2) hx hb d_Board_startSignals_38 (by decide) ?_
      refine lv_iload_n hx hb d_Board_startSignals_39 rfl (lv_at hl 0 rfl) ?_
      refine nv_iadd hx hb d_Board_startSignals_40 ?_
      refine lv_iconst (v := nI 0) hx hb d_Board_startSignals_41 (by decide) ?_
      refine nv_iastC (x := 0 + 2) hx hb hK hP hD hS 3 1 rfl rfl (by omega) (by decide) d_Board_startSignals_42 (fun H locs hP hD hS => ?_)
      have hP : va_P (dC, dI) cl [(qd, .inr (9, [f0, f1, .ref a_from, f3, f4, f5, f6, f7, f8, f9, .ref a_value, .ref a_level, f12, f13, f14, f15, f16, f17, f18])), (a_from, .inl (cI, 8000, .inl (xF (va_up fr i (.inr (2 + i)))))), (a_value, .inl (cZ, 430, .inl (bF (va_up va (2 + i) false)))), (a_level, .inl (cI, 430, .inl (zF (va_up lev (2 + i) (0 + 2)))))] H := hP
      have hD : va_D A [(qd, .inr (9, [f0, f1, .ref a_from, f3, f4, f5, f6, f7, f8, f9, .ref a_value, .ref a_level, f12, f13, f14, f15, f16, f17, f18])), (a_from, .inl (cI, 8000, .inl (xF (va_up fr i (.inr (2 + i)))))), (a_value, .inl (cZ, 430, .inl (bF (va_up va (2 + i) false)))), (a_level, .inl (cI, 430, .inl (zF (va_up lev (2 + i) (0 + 2)))))] := hD
      refine lv_iinc (v := nI (i + 1)) (lv' := [(2, .int (nI (i + 1))), (1, .int (nI ib)), (0, .ref qd)]) hx hb d_Board_startSignals_43 hl (k := 0) rfl (nI_1 _) (by decide) rfl (fun ls hl => ?_)
      refine lv_goto (tgt := 9) hx hb d_Board_startSignals_46 (by decide) ?_
      exact ih (i + 1) _ _ _ H locs ls (by omega) (by omega) (by rw [← hr, ssg_u ib ib i, if_pos (by omega)]) hP hD hS (lv_sub hl [0, 1, 2] rfl)
set_option maxHeartbeats 4000000 in
set_option maxRecDepth 100000 in
/-- startSignals(inBits) -/
theorem c_Board_startSignals (l : Launch) (dC : Nat → ClassId) (dI : Nat → Nat → Nat) (cB cI cL cZ cC cO : ClassId) {qd a_from a_value a_level : Nat}{f0 f1 f3 f4 f5 f6 f7 f8 f9 f12 f13 f14 f15 f16 f17 f18 : Value} (fr : Nat → Nat ⊕ Nat) (va : Nat → Bool) (lev : Nat → Nat) (ib : Nat) (sz : Nat) (hib : ib ≤ 128) : Met l y_Board_startSignals w_Board_startSignals ({ frames := 0, cells := 0, slots := 0, locals := 0 }) (va_Pc [.ref qd, .int (nI ib)] (wB (dC, dI) cl [(cB, .byte), (cI, .int), (cL, .long), (cZ, .boolean), (cC, .char), (cO, .object "java/lang/Object")] sz [(qd, .inr (9, [f0, f1, .ref a_from, f3, f4, f5, f6, f7, f8, f9, .ref a_value, .ref a_level, f12, f13, f14, f15, f16, f17, f18])), (a_from, .inl (cI, 8000, .inl (xF fr))), (a_value, .inl (cZ, 430, .inl (bF va))), (a_level, .inl (cI, 430, .inl (zF lev)))])) (va_Qv (fun (u : (Nat → Nat ⊕ Nat) × (Nat → Bool) × (Nat → Nat)) => u = (ssg ib ib 0 (fr, va_up va 1 true, lev))) (fun u t => wA (dC, dI) cl [(cB, .byte), (cI, .int), (cL, .long), (cZ, .boolean), (cC, .char), (cO, .object "java/lang/Object")] (va_A [(qd, .inr (9, [f0, f1, .ref a_from, f3, f4, f5, f6, f7, f8, f9, .ref a_value, .ref a_level, f12, f13, f14, f15, f16, f17, f18])), (a_from, .inl (cI, 8000, .inl (xF fr))), (a_value, .inl (cZ, 430, .inl (bF va))), (a_level, .inl (cI, 430, .inl (zF lev)))] sz) [(qd, .inr (9, [f0, f1, .ref a_from, f3, f4, f5, f6, f7, f8, f9, .ref a_value, .ref a_level, f12, f13, f14, f15, f16, f17, f18])), (a_from, .inl (cI, 8000, .inl (xF u.1))), (a_value, .inl (cZ, 430, .inl (bF u.2.1))), (a_level, .inl (cI, 430, .inl (zF u.2.2)))] t) (va_A [(qd, .inr (9, [f0, f1, .ref a_from, f3, f4, f5, f6, f7, f8, f9, .ref a_value, .ref a_level, f12, f13, f14, f15, f16, f17, f18])), (a_from, .inl (cI, 8000, .inl (xF fr))), (a_value, .inl (cZ, 430, .inl (bF va))), (a_level, .inl (cI, 430, .inl (zF lev)))] sz)) 0 0 (va_A [(qd, .inr (9, [f0, f1, .ref a_from, f3, f4, f5, f6, f7, f8, f9, .ref a_value, .ref a_level, f12, f13, f14, f15, f16, f17, f18])), (a_from, .inl (cI, 8000, .inl (xF fr))), (a_value, .inl (cZ, 430, .inl (bF va))), (a_level, .inl (cI, 430, .inl (zF lev)))] sz) := by
  refine Met.ofW (cc := b_Board_startSignals) (maxL := 3) (ret := none) (by decide) rfl ?_
  intro p e s m args below meth c s₁ B hml hv
  obtain ⟨rfl, hsz, hP, hK, hD0, hF⟩ := hv
  have hx := B.exec
  have hb := B.bytes
  have hr := B.returns
  have hts := atoms_spec (ws := w_Board_startSignals) B.pre
  have hts : ∀ w ∈ tb, w.before _ s = true := fun w h => hts w (List.mem_cons_of_mem _ h)
  have hown : s.vm.findClass R_Board = some m.cls := findClass_of_methodNamed B.named
  have hlocks := B.notSynchronized
  subst hsz
  have hD := hD0.self (sz := s.heap.size)
  generalize hAe : va_A [(qd, .inr (9, [f0, f1, .ref a_from, f3, f4, f5, f6, f7, f8, f9, .ref a_value, .ref a_level, f12, f13, f14, f15, f16, f17, f18])), (a_from, .inl (cI, 8000, .inl (xF fr))), (a_value, .inl (cZ, 430, .inl (bF va))), (a_level, .inl (cI, 430, .inl (zF lev)))] s.heap.size = A at hD hF ⊢
  have hA : ∀ q : Nat, s.heap.size ≤ q → A q := fun q h => by rw [← hAe]; exact Or.inr h
  have hS : va_S A s.heap s.heap [] := va_S.rf
  have hP : va_P (dC, dI) cl [(qd, .inr (9, [f0, f1, .ref a_from, f3, f4, f5, f6, f7, f8, f9, .ref a_value, .ref a_level, f12, f13, f14, f15, f16, f17, f18])), (a_from, .inl (cI, 8000, .inl (xF fr))), (a_value, .inl (cZ, 430, .inl (bF va))), (a_level, .inl (cI, 430, .inl (zF lev)))] s.heap := hP
  have hl := lv_entry ([.ref qd, .int (nI ib)]) (n := 3) (Nat.le_of_ble_eq_true rfl)
  rw [lg_entry_eq]
  generalize (lg_sl ([.ref qd, .int (nI ib)]) ++ List.replicate (3 - (lg_sl ([.ref qd, .int (nI ib)])).length) Slot.unset).toArray = ls at hl ⊢
  have hl : lv_has ls 3 [(0, .ref qd), (1, .int (nI ib))] := hl
  refine lv_aload_n hx hb d_Board_startSignals_0 rfl (lv_at hl 0 rfl) ?_
  refine va_get (D := (dC, dI)) (ci := 9) (v := .ref a_value) (C := R_Board) (T := F_Board) (N := 19) hx hb hts i_Board hown hK hP 0 rfl rfl 10 (by decide) (hts _ k_383) (fun _ h9 => h9) rfl d_Board_startSignals_1 ?_
  refine lv_iconst (v := nI 1) hx hb d_Board_startSignals_4 (by decide) ?_
  refine lv_iconst (v := nI 1) hx hb d_Board_startSignals_5 (by decide) ?_
  refine nv_zastB (x := true) hx hb hK hP hD hS 2 3 rfl rfl (by omega) (by decide) d_Board_startSignals_6 (fun H locs hP hD hS => ?_)
  have hP : va_P (dC, dI) cl [(qd, .inr (9, [f0, f1, .ref a_from, f3, f4, f5, f6, f7, f8, f9, .ref a_value, .ref a_level, f12, f13, f14, f15, f16, f17, f18])), (a_from, .inl (cI, 8000, .inl (xF fr))), (a_value, .inl (cZ, 430, .inl (bF (va_up va 1 true)))), (a_level, .inl (cI, 430, .inl (zF lev)))] H := hP
  have hD : va_D A [(qd, .inr (9, [f0, f1, .ref a_from, f3, f4, f5, f6, f7, f8, f9, .ref a_value, .ref a_level, f12, f13, f14, f15, f16, f17, f18])), (a_from, .inl (cI, 8000, .inl (xF fr))), (a_value, .inl (cZ, 430, .inl (bF (va_up va 1 true)))), (a_level, .inl (cI, 430, .inl (zF lev)))] := hD
  refine lv_iconst (v := nI 0) hx hb d_Board_startSignals_7 (by decide) ?_
  refine lv_istore_n (lv' := [(2, .int (nI 0)), (0, .ref qd), (1, .int (nI ib))]) hx hb d_Board_startSignals_8 rfl hl (by decide) rfl (fun ls hl => ?_)
  refine lp_Board_startSignals (F := (ssg ib ib 0 (fr, va_up va 1 true, lev))) hib hx hb hml hown hts hA hF hK (fun H locs ls hP hD hS hl => ?_) (ib + 1) 0 fr _ lev _ _ ls (by omega) (by omega) rfl hP hD hS (lv_sub hl [0, 2, 1] rfl)
  exact wr_v hx hb hr hlocks (ssg ib ib 0 (fr, va_up va 1 true, lev)) rfl hK hP hD hS d_Board_startSignals_49
