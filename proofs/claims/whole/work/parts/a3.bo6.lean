theorem sfl {fr : Nat → Nat ⊕ Nat} {i nb s : Nat} : (if i < nb then upd (xF fr) i (nI s) else xF fr) = xF (if i < nb then va_up fr i (.inl s) else fr) := by
  split
  · exact up_x fr i (.inl s)
  · rfl
/-- join: the bits of one link -/
def sf_ (nb : Nat) (fr : Nat → Nat ⊕ Nat) (i : Nat) (v : Nat ⊕ Nat) : Nat → Nat ⊕ Nat := if i < nb then va_up fr i v else fr
def jn1 (cb io : Bool) (z lf rt nb k : Nat) (fr : Nat → Nat ⊕ Nat) : Nat → Nat ⊕ Nat := if cb = true then sf_ nb fr (lf + k) (.inr z) else if io = true then sf_ nb fr (rt + k) (.inl (lf + k)) else sf_ nb fr (lf + k) (.inl (rt + k))
def jn (cb io : Bool) (z lf rt nb : Nat) : Nat → Nat → (Nat → Nat ⊕ Nat) → (Nat → Nat ⊕ Nat)
  | 0, _, fr => fr
  | n + 1, k, fr => jn cb io z lf rt nb n (k + 1) (jn1 cb io z lf rt nb k fr)
theorem jn_u (cb io : Bool) (z lf rt nb n k : Nat) (fr : Nat → Nat ⊕ Nat) : jn cb io z lf rt nb (n - k) k fr = if k < n then jn cb io z lf rt nb (n - (k + 1)) (k + 1) (jn1 cb io z lf rt nb k fr) else fr := by
  by_cases h : k < n
  · rw [if_pos h, show n - k = (n - (k + 1)) + 1 by omega]; rfl
  · rw [if_neg h, show n - k = 0 by omega]; rfl
theorem d_Board_join_0 : decode b_Board_join 0 = .ok (.aload_n 1, 1) := by decide +kernel
theorem d_Board_join_1 : decode b_Board_join 1 = .ok (.getfield 135, 3) := by decide +kernel
theorem d_Board_join_4 : decode b_Board_join 4 = .ok (.astore 4, 2) := by decide +kernel
theorem d_Board_join_6 : decode b_Board_join 6 = .ok (.aload_n 1, 1) := by decide +kernel
theorem d_Board_join_7 : decode b_Board_join 7 = .ok (.getfield 139, 3) := by decide +kernel
theorem d_Board_join_10 : decode b_Board_join 10 = .ok (.astore 5, 2) := by decide +kernel
theorem d_Board_join_12 : decode b_Board_join 12 = .ok (.aload 4, 2) := by decide +kernel
theorem d_Board_join_14 : decode b_Board_join 14 = .ok (.ifnonnull 4, 3) := by decide +kernel
theorem d_Board_join_17 : decode b_Board_join 17 = .ok (.return_, 1) := by decide +kernel
theorem d_Board_join_18 : decode b_Board_join 18 = .ok (.iload_n 3, 1) := by decide +kernel
theorem d_Board_join_19 : decode b_Board_join 19 = .ok (.aload 4, 2) := by decide +kernel
theorem d_Board_join_21 : decode b_Board_join 21 = .ok (.getfield 142, 3) := by decide +kernel
theorem d_Board_join_24 : decode b_Board_join 24 = .ok (.iadd, 1) := by decide +kernel
theorem d_Board_join_25 : decode b_Board_join 25 = .ok (.aload_n 1, 1) := by decide +kernel
theorem d_Board_join_26 : decode b_Board_join 26 = .ok (.getfield 145, 3) := by decide +kernel
theorem d_Board_join_29 : decode b_Board_join 29 = .ok (.getfield 149, 3) := by decide +kernel
theorem d_Board_join_32 : decode b_Board_join 32 = .ok (.iadd, 1) := by decide +kernel
theorem d_Board_join_33 : decode b_Board_join 33 = .ok (.istore 6, 2) := by decide +kernel
theorem d_Board_join_35 : decode b_Board_join 35 = .ok (.aload_n 1, 1) := by decide +kernel
theorem d_Board_join_36 : decode b_Board_join 36 = .ok (.getfield 145, 3) := by decide +kernel
theorem d_Board_join_39 : decode b_Board_join 39 = .ok (.aload 4, 2) := by decide +kernel
theorem d_Board_join_41 : decode b_Board_join 41 = .ok (.getfield 154, 3) := by decide +kernel
theorem d_Board_join_44 : decode b_Board_join 44 = .ok (.invokevirtual 157, 3) := by decide +kernel
theorem d_Board_join_47 : decode b_Board_join 47 = .ok (.istore 7, 2) := by decide +kernel
theorem d_Board_join_49 : decode b_Board_join 49 = .ok (.aload 5, 2) := by decide +kernel
theorem d_Board_join_51 : decode b_Board_join 51 = .ok (.ifnonnull 7, 3) := by decide +kernel
theorem d_Board_join_54 : decode b_Board_join 54 = .ok (.iconst 0, 1) := by decide +kernel
theorem d_Board_join_55 : decode b_Board_join 55 = .ok (.goto 18, 3) := by decide +kernel
theorem d_Board_join_58 : decode b_Board_join 58 = .ok (.iload_n 2, 1) := by decide +kernel
theorem d_Board_join_59 : decode b_Board_join 59 = .ok (.aload 5, 2) := by decide +kernel
theorem d_Board_join_61 : decode b_Board_join 61 = .ok (.getfield 142, 3) := by decide +kernel
theorem d_Board_join_64 : decode b_Board_join 64 = .ok (.iadd, 1) := by decide +kernel
theorem d_Board_join_65 : decode b_Board_join 65 = .ok (.aload_n 1, 1) := by decide +kernel
theorem d_Board_join_66 : decode b_Board_join 66 = .ok (.getfield 160, 3) := by decide +kernel
theorem d_Board_join_69 : decode b_Board_join 69 = .ok (.getfield 149, 3) := by decide +kernel
theorem d_Board_join_72 : decode b_Board_join 72 = .ok (.iadd, 1) := by decide +kernel
theorem d_Board_join_73 : decode b_Board_join 73 = .ok (.istore 8, 2) := by decide +kernel
theorem d_Board_join_75 : decode b_Board_join 75 = .ok (.iconst 0, 1) := by decide +kernel
theorem d_Board_join_76 : decode b_Board_join 76 = .ok (.istore 9, 2) := by decide +kernel
theorem d_Board_join_78 : decode b_Board_join 78 = .ok (.iload 9, 2) := by decide +kernel
theorem d_Board_join_80 : decode b_Board_join 80 = .ok (.iload 7, 2) := by decide +kernel
theorem d_Board_join_82 : decode b_Board_join 82 = .ok (.if_icmp .ge 74, 3) := by decide +kernel
theorem d_Board_join_85 : decode b_Board_join 85 = .ok (.aload 5, 2) := by decide +kernel
theorem d_Board_join_87 : decode b_Board_join 87 = .ok (.ifnonnull 24, 3) := by decide +kernel
theorem d_Board_join_90 : decode b_Board_join 90 = .ok (.aload_n 0, 1) := by decide +kernel
theorem d_Board_join_91 : decode b_Board_join 91 = .ok (.iload 6, 2) := by decide +kernel
theorem d_Board_join_93 : decode b_Board_join 93 = .ok (.iload 9, 2) := by decide +kernel
theorem d_Board_join_95 : decode b_Board_join 95 = .ok (.iadd, 1) := by decide +kernel
theorem d_Board_join_96 : decode b_Board_join 96 = .ok (.aload_n 1, 1) := by decide +kernel
theorem d_Board_join_97 : decode b_Board_join 97 = .ok (.getfield 160, 3) := by decide +kernel
theorem d_Board_join_100 : decode b_Board_join 100 = .ok (.getfield 163, 3) := by decide +kernel
theorem d_Board_join_103 : decode b_Board_join 103 = .ok (.iconst (-1), 1) := by decide +kernel
theorem d_Board_join_104 : decode b_Board_join 104 = .ok (.ixor, 1) := by decide +kernel
theorem d_Board_join_105 : decode b_Board_join 105 = .ok (.invokevirtual 166, 3) := by decide +kernel
theorem d_Board_join_108 : decode b_Board_join 108 = .ok (.goto 42, 3) := by decide +kernel
theorem d_Board_join_111 : decode b_Board_join 111 = .ok (.aload 4, 2) := by decide +kernel
theorem d_Board_join_113 : decode b_Board_join 113 = .ok (.getfield 170, 3) := by decide +kernel
theorem d_Board_join_116 : decode b_Board_join 116 = .ok (.ifCond .ne 20, 3) := by decide +kernel
theorem d_Board_join_119 : decode b_Board_join 119 = .ok (.aload_n 0, 1) := by decide +kernel
theorem d_Board_join_120 : decode b_Board_join 120 = .ok (.iload 6, 2) := by decide +kernel
theorem d_Board_join_122 : decode b_Board_join 122 = .ok (.iload 9, 2) := by decide +kernel
theorem d_Board_join_124 : decode b_Board_join 124 = .ok (.iadd, 1) := by decide +kernel
theorem d_Board_join_125 : decode b_Board_join 125 = .ok (.iload 8, 2) := by decide +kernel
theorem d_Board_join_127 : decode b_Board_join 127 = .ok (.iload 9, 2) := by decide +kernel
theorem d_Board_join_129 : decode b_Board_join 129 = .ok (.iadd, 1) := by decide +kernel
theorem d_Board_join_130 : decode b_Board_join 130 = .ok (.invokevirtual 166, 3) := by decide +kernel
theorem d_Board_join_133 : decode b_Board_join 133 = .ok (.goto 17, 3) := by decide +kernel
theorem d_Board_join_136 : decode b_Board_join 136 = .ok (.aload_n 0, 1) := by decide +kernel
theorem d_Board_join_137 : decode b_Board_join 137 = .ok (.iload 8, 2) := by decide +kernel
theorem d_Board_join_139 : decode b_Board_join 139 = .ok (.iload 9, 2) := by decide +kernel
theorem d_Board_join_141 : decode b_Board_join 141 = .ok (.iadd, 1) := by decide +kernel
theorem d_Board_join_142 : decode b_Board_join 142 = .ok (.iload 6, 2) := by decide +kernel
theorem d_Board_join_144 : decode b_Board_join 144 = .ok (.iload 9, 2) := by decide +kernel
theorem d_Board_join_146 : decode b_Board_join 146 = .ok (.iadd, 1) := by decide +kernel
theorem d_Board_join_147 : decode b_Board_join 147 = .ok (.invokevirtual 166, 3) := by decide +kernel
theorem d_Board_join_150 : decode b_Board_join 150 = .ok (.iinc 9 1, 3) := by decide +kernel
theorem d_Board_join_153 : decode b_Board_join 153 = .ok (.goto (-75), 3) := by decide +kernel
theorem d_Board_join_156 : decode b_Board_join 156 = .ok (.return_, 1) := by decide +kernel
set_option maxHeartbeats 4000000 in
set_option maxRecDepth 100000 in
theorem lp0_Board_join {p : Program} {l : Launch} {e : Env} {s : State} {m : MethodId} {args : Array Value} {below : List Frame} {meth : Method} {c : Code} {Q : State → Prop} {A : Nat → Prop} {dC : Nat → ClassId} {dI : Nat → Nat → Nat} {cB cI cL cZ cC cO : ClassId} {t0 : Nat} {qd a_from : Nat}{f0 f1 f4 f5 f6 f7 f8 f9 f10 f11 f12 f13 f14 f15 f16 f17 f18 : Value} {L : List Nat} {G : PG} {x pn s2 wn bs st lf wd_ rt nb z : Nat} {F : Nat → Nat ⊕ Nat} {io : Bool} (hL : gL L G) (hnb : nb ≤ 8000) (hxk : G.1 x = 4) (hpk : G.1 pn = 2) (hlf : lf < 2 ^ 29) (hrt : rt < 2 ^ 29) (hwd : wd_ < 1000) (hs2k : G.1 s2 = 3) (hx1 : G.2.2.2.2.2 x 1 = some s2) (hz : G.2.2.1 s2 1 = some z) (hx : p.tables.exec = Jvm.exec) (hb : c.code = b_Board_join) (hml : c.maxLocals = 10) (hown : s.vm.findClass R_Board = some m.cls) (hts : ∀ w ∈ tb, w.before args s = true) (hA : ∀ q, s.heap.size ≤ q → A q) (hF : stF A s) (hE : stE A t0 s) (hK : va_K (dC, dI) cl [(cB, .byte), (cI, .int), (cL, .long), (cZ, .boolean), (cC, .char), (cO, .object "java/lang/Object")] s)
    (kx : ∀  (H : Heap) (locs : List Loc) (ls : Array Slot), va_P (dC, dI) cl ([(qd, .inr (9, [f0, f1, .ref a_from, .int (nI nb), f4, f5, f6, f7, f8, f9, f10, f11, f12, f13, f14, f15, f16, f17, f18])), (a_from, .inl (cI, 8000, .inl (xF F)))] ++ va_pl L (gE cO G)) H → va_D A ([(qd, .inr (9, [f0, f1, .ref a_from, .int (nI nb), f4, f5, f6, f7, f8, f9, f10, f11, f12, f13, f14, f15, f16, f17, f18])), (a_from, .inl (cI, 8000, .inl (xF F)))] ++ va_pl L (gE cO G)) → va_S A s.heap H locs → lv_has ls 10 [(0, .ref qd)] → W p l e (headSpec w_Board_join { frames := 2, cells := 0, slots := 0, locals := 120 }).room s m args below meth c H locs 0 0 Q (F0 m 156 ls [])) :
    ∀ (k : Nat) (k0 : Nat) (fr : Nat → Nat ⊕ Nat) (H : Heap) (locs : List Loc) (ls : Array Slot), wd_ < k0 + k → k0 ≤ wd_ → jn true io z lf rt nb (wd_ - k0) k0 fr = F → va_P (dC, dI) cl ([(qd, .inr (9, [f0, f1, .ref a_from, .int (nI nb), f4, f5, f6, f7, f8, f9, f10, f11, f12, f13, f14, f15, f16, f17, f18])), (a_from, .inl (cI, 8000, .inl (xF fr)))] ++ va_pl L (gE cO G)) H → va_D A ([(qd, .inr (9, [f0, f1, .ref a_from, .int (nI nb), f4, f5, f6, f7, f8, f9, f10, f11, f12, f13, f14, f15, f16, f17, f18])), (a_from, .inl (cI, 8000, .inl (xF fr)))] ++ va_pl L (gE cO G)) → va_S A s.heap H locs → lv_has ls 10 [(0, .ref qd), (1, .ref x), (2, .int (nI bs)), (3, .int (nI st)), (4, .ref pn), (5, .null), (6, .int (nI lf)), (7, .int (nI wd_)), (8, .int (nI rt)), (9, .int (nI k0))] → W p l e (headSpec w_Board_join { frames := 2, cells := 0, slots := 0, locals := 120 }).room s m args below meth c H locs 0 0 Q (F0 m 78 ls []) := by
  intro k
  induction k with
  | zero =>
    intro k0 fr H locs ls hk hi hr hP hD hS hl
    exfalso; omega
  | succ k ih =>
    intro k0 fr H locs ls hk hi hr hP hD hS hl
    refine lv_iload hx hb d_Board_join_78 (lv_at hl 9 rfl) ?_
    refine lv_iload hx hb d_Board_join_80 (lv_at hl 7 rfl) ?_
    refine nv_icmp_ge (tgt := 156) hx hb (by omega) (by omega) d_Board_join_82 (by decide) (fun c_1 => ?_) (fun c_1 => ?_)
    · have hq : fr = F := by rw [← hr, jn_u, if_neg (by omega)]
      subst hq
      exact kx H locs ls hP hD hS (lv_sub hl [0] rfl)
    · refine lv_aloadN hx hb d_Board_join_85 (lv_at hl 5 rfl) ?_
      refine lv_ifnonnullN hx hb d_Board_join_87 ?_
      refine lv_aload_n hx hb d_Board_join_90 rfl (lv_at hl 0 rfl) ?_
      refine lv_iload hx hb d_Board_join_91 (lv_at hl 6 rfl) ?_
      refine lv_iload hx hb d_Board_join_93 (lv_at hl 9 rfl) ?_
      refine nv_iadd hx hb d_Board_join_95 ?_
      refine lv_aload_n hx hb d_Board_join_96 rfl (lv_at hl 1 rfl) ?_
      refine pq_get (D := (dC, dI)) (ci := 12) (v := .ref s2) (C := R_Link) (T := F_Link) (N := 4) hx hb hts i_Link hown hK hP (gL_m hL hxk (by decide)) (gE_4 (G := G) hxk) rfl 1 (by decide) (hts _ k_656) (fun _ h9 => h9) (congrArg (fun z9 => some (va_rf z9)) hx1) d_Board_join_97 ?_
      refine pq_get (D := (dC, dI)) (ci := 11) (v := .int (oI (some z))) (C := R_Side) (T := F_Side) (N := 5) hx hb hts i_Side hown hK hP (gL_m hL hs2k (by decide)) (gE_3 (G := G) hs2k) rfl 1 (by decide) (hts _ k_617) (fun _ h9 => h9) (congrArg (fun z9 => some (Value.int (oI z9))) hz) d_Board_join_100 ?_
      refine lv_iconst (v := (-1)) hx hb d_Board_join_103 (by decide) ?_
      refine lv_ixor hx hb d_Board_join_104 ?_
      refine we_v (cx := [(qd, .inr (9, [f0, f1, .ref a_from, .int (nI nb), f4, f5, f6, f7, f8, f9, f10, f11, f12, f13, f14, f15, f16, f17, f18])), (a_from, .inl (cI, 8000, .inl (xF fr)))]) (wr := []) (pl := va_pl L (gE cO G)) (va_runV (As := [.int (nI (lf + k0)), .int ((oI (some z)) ^^^ (-1))]) (rest := []) ⟨hx, hb, hml, hown, hts⟩ (c_Board_setFrom l dC dI cB cI cL cZ cC cO (xF fr) nb (lf + k0) ((oI (some z)) ^^^ (-1)) _ hnb (by omega)) (cwV 2 hts (good_V k_793 k_795 s_Board_setFrom k_18 k_796) rfl rfl rfl (by decide +kernel) ⟨Nat.le_of_ble_eq_true rfl, Nat.le_of_ble_eq_true rfl⟩) (wc_preV (k0 := 0) (ci := 9) (r := (R_Board, F_Board, 19)) hK hP hD hS hA hF [0, 1] (by decide) rfl rfl rfl) rfl rfl hl.1 rfl (lv_room (Nat.le_of_ble_eq_true rfl)) d_Board_join_105 ⟨Nat.le_of_ble_eq_true rfl, Nat.le_of_ble_eq_true rfl⟩) hP hD hS hA [0, 1] [] rfl rfl (by decide) (by decide) (fun u H locs w_2 hP hD hS => ?_)
      have hP : va_P (dC, dI) cl ([(qd, .inr (9, [f0, f1, .ref a_from, .int (nI nb), f4, f5, f6, f7, f8, f9, f10, f11, f12, f13, f14, f15, f16, f17, f18])), (a_from, .inl (cI, 8000, .inl u))] ++ va_pl L (gE cO G)) H := hP
      have hD : va_D A ([(qd, .inr (9, [f0, f1, .ref a_from, .int (nI nb), f4, f5, f6, f7, f8, f9, f10, f11, f12, f13, f14, f15, f16, f17, f18])), (a_from, .inl (cI, 8000, .inl u))] ++ va_pl L (gE cO G)) := hD
      rw [show oI (some z) = nI z from rfl, sfx] at w_2
      subst w_2
      have hP : va_P (dC, dI) cl ([(qd, .inr (9, [f0, f1, .ref a_from, .int (nI nb), f4, f5, f6, f7, f8, f9, f10, f11, f12, f13, f14, f15, f16, f17, f18])), (a_from, .inl (cI, 8000, .inl (xF (if lf + k0 < nb then va_up fr (lf + k0) (.inr z) else fr))))] ++ va_pl L (gE cO G)) H := hP
      have hD : va_D A ([(qd, .inr (9, [f0, f1, .ref a_from, .int (nI nb), f4, f5, f6, f7, f8, f9, f10, f11, f12, f13, f14, f15, f16, f17, f18])), (a_from, .inl (cI, 8000, .inl (xF (if lf + k0 < nb then va_up fr (lf + k0) (.inr z) else fr))))] ++ va_pl L (gE cO G)) := hD
      refine lv_goto (tgt := 150) hx hb d_Board_join_108 (by decide) ?_
      refine lv_iinc (v := nI (k0 + 1)) (lv' := [(9, .int (nI (k0 + 1))), (0, .ref qd), (1, .ref x), (2, .int (nI bs)), (3, .int (nI st)), (4, .ref pn), (5, .null), (6, .int (nI lf)), (7, .int (nI wd_)), (8, .int (nI rt))]) hx hb d_Board_join_150 hl (k := 9) rfl (nI_1 _) (by decide) rfl (fun ls hl => ?_)
      refine lv_goto (tgt := 78) hx hb d_Board_join_153 (by decide) ?_
      have e9 : jn1 true io z lf rt nb k0 fr = (if lf + k0 < nb then va_up fr (lf + k0) (.inr z) else fr) := if_pos rfl
      exact ih (k0 + 1) (if lf + k0 < nb then va_up fr (lf + k0) (.inr z) else fr) H locs ls (by omega) (by omega) (by rw [← hr, jn_u _ _ _ _ _ _ _ k0, if_pos (show k0 < wd_ by omega), e9]) hP hD hS (lv_sub hl [1, 2, 3, 4, 5, 6, 7, 8, 9, 0] rfl)
set_option maxHeartbeats 4000000 in
set_option maxRecDepth 100000 in
theorem lp1_Board_join {p : Program} {l : Launch} {e : Env} {s : State} {m : MethodId} {args : Array Value} {below : List Frame} {meth : Method} {c : Code} {Q : State → Prop} {A : Nat → Prop} {dC : Nat → ClassId} {dI : Nat → Nat → Nat} {cB cI cL cZ cC cO : ClassId} {t0 : Nat} {qd a_from : Nat}{f0 f1 f4 f5 f6 f7 f8 f9 f10 f11 f12 f13 f14 f15 f16 f17 f18 : Value} {L : List Nat} {G : PG} {x pn s2 wn bs st lf wd_ rt nb z : Nat} {F : Nat → Nat ⊕ Nat}  (hL : gL L G) (hnb : nb ≤ 8000) (hxk : G.1 x = 4) (hpk : G.1 pn = 2) (hlf : lf < 2 ^ 29) (hrt : rt < 2 ^ 29) (hwd : wd_ < 1000) (hkd : G.2.1 pn 1 < 3) (hx : p.tables.exec = Jvm.exec) (hb : c.code = b_Board_join) (hml : c.maxLocals = 10) (hown : s.vm.findClass R_Board = some m.cls) (hts : ∀ w ∈ tb, w.before args s = true) (hA : ∀ q, s.heap.size ≤ q → A q) (hF : stF A s) (hE : stE A t0 s) (hK : va_K (dC, dI) cl [(cB, .byte), (cI, .int), (cL, .long), (cZ, .boolean), (cC, .char), (cO, .object "java/lang/Object")] s)
    (kx : ∀  (H : Heap) (locs : List Loc) (ls : Array Slot), va_P (dC, dI) cl ([(qd, .inr (9, [f0, f1, .ref a_from, .int (nI nb), f4, f5, f6, f7, f8, f9, f10, f11, f12, f13, f14, f15, f16, f17, f18])), (a_from, .inl (cI, 8000, .inl (xF F)))] ++ va_pl L (gE cO G)) H → va_D A ([(qd, .inr (9, [f0, f1, .ref a_from, .int (nI nb), f4, f5, f6, f7, f8, f9, f10, f11, f12, f13, f14, f15, f16, f17, f18])), (a_from, .inl (cI, 8000, .inl (xF F)))] ++ va_pl L (gE cO G)) → va_S A s.heap H locs → lv_has ls 10 [(0, .ref qd)] → W p l e (headSpec w_Board_join { frames := 2, cells := 0, slots := 0, locals := 120 }).room s m args below meth c H locs 0 0 Q (F0 m 156 ls [])) :
    ∀ (k : Nat) (k0 : Nat) (fr : Nat → Nat ⊕ Nat) (H : Heap) (locs : List Loc) (ls : Array Slot), wd_ < k0 + k → k0 ≤ wd_ → jn false (decide (G.2.1 pn 1 ≠ 0)) z lf rt nb (wd_ - k0) k0 fr = F → va_P (dC, dI) cl ([(qd, .inr (9, [f0, f1, .ref a_from, .int (nI nb), f4, f5, f6, f7, f8, f9, f10, f11, f12, f13, f14, f15, f16, f17, f18])), (a_from, .inl (cI, 8000, .inl (xF fr)))] ++ va_pl L (gE cO G)) H → va_D A ([(qd, .inr (9, [f0, f1, .ref a_from, .int (nI nb), f4, f5, f6, f7, f8, f9, f10, f11, f12, f13, f14, f15, f16, f17, f18])), (a_from, .inl (cI, 8000, .inl (xF fr)))] ++ va_pl L (gE cO G)) → va_S A s.heap H locs → lv_has ls 10 [(0, .ref qd), (1, .ref x), (2, .int (nI bs)), (3, .int (nI st)), (4, .ref pn), (5, .ref wn), (6, .int (nI lf)), (7, .int (nI wd_)), (8, .int (nI rt)), (9, .int (nI k0))] → W p l e (headSpec w_Board_join { frames := 2, cells := 0, slots := 0, locals := 120 }).room s m args below meth c H locs 0 0 Q (F0 m 78 ls []) := by
  intro k
  induction k with
  | zero =>
    intro k0 fr H locs ls hk hi hr hP hD hS hl
    exfalso; omega
  | succ k ih =>
    intro k0 fr H locs ls hk hi hr hP hD hS hl
    refine lv_iload hx hb d_Board_join_78 (lv_at hl 9 rfl) ?_
    refine lv_iload hx hb d_Board_join_80 (lv_at hl 7 rfl) ?_
    refine nv_icmp_ge (tgt := 156) hx hb (by omega) (by omega) d_Board_join_82 (by decide) (fun c_1 => ?_) (fun c_1 => ?_)
    · have hq : fr = F := by rw [← hr, jn_u, if_neg (by omega)]
      subst hq
      exact kx H locs ls hP hD hS (lv_sub hl [0] rfl)
    · refine lv_aload hx hb d_Board_join_85 (lv_at hl 5 rfl) ?_
      refine lv_ifnonnull (tgt := 111) hx hb d_Board_join_87 (by decide) ?_
      refine lv_aload hx hb d_Board_join_111 (lv_at hl 4 rfl) ?_
      refine pq_get (D := (dC, dI)) (ci := 8) (v := .int (nI (G.2.1 pn 1))) (C := R_Wire) (T := F_Wire) (N := 7) hx hb hts i_Wire hown hK hP (gL_m hL hpk (by decide)) (gE_2 (G := G) hpk) rfl 1 (by decide) (hts _ k_220) (fun _ h9 => h9) rfl d_Board_join_113 ?_
      refine nv_if_ne (tgt := 136) hx hb (by omega) d_Board_join_116 (by decide) (fun c_2 => ?_) (fun c_2 => ?_)
      · refine lv_aload_n hx hb d_Board_join_136 rfl (lv_at hl 0 rfl) ?_
        refine lv_iload hx hb d_Board_join_137 (lv_at hl 8 rfl) ?_
        refine lv_iload hx hb d_Board_join_139 (lv_at hl 9 rfl) ?_
        refine nv_iadd hx hb d_Board_join_141 ?_
        refine lv_iload hx hb d_Board_join_142 (lv_at hl 6 rfl) ?_
        refine lv_iload hx hb d_Board_join_144 (lv_at hl 9 rfl) ?_
        refine nv_iadd hx hb d_Board_join_146 ?_
        refine we_v (cx := [(qd, .inr (9, [f0, f1, .ref a_from, .int (nI nb), f4, f5, f6, f7, f8, f9, f10, f11, f12, f13, f14, f15, f16, f17, f18])), (a_from, .inl (cI, 8000, .inl (xF fr)))]) (wr := []) (pl := va_pl L (gE cO G)) (va_runV (As := [.int (nI (rt + k0)), .int (nI (lf + k0))]) (rest := []) ⟨hx, hb, hml, hown, hts⟩ (c_Board_setFrom l dC dI cB cI cL cZ cC cO (xF fr) nb (rt + k0) (nI (lf + k0)) _ hnb (by omega)) (cwV 2 hts (good_V k_793 k_795 s_Board_setFrom k_18 k_796) rfl rfl rfl (by decide +kernel) ⟨Nat.le_of_ble_eq_true rfl, Nat.le_of_ble_eq_true rfl⟩) (wc_preV (k0 := 0) (ci := 9) (r := (R_Board, F_Board, 19)) hK hP hD hS hA hF [0, 1] (by decide) rfl rfl rfl) rfl rfl hl.1 rfl (lv_room (Nat.le_of_ble_eq_true rfl)) d_Board_join_147 ⟨Nat.le_of_ble_eq_true rfl, Nat.le_of_ble_eq_true rfl⟩) hP hD hS hA [0, 1] [] rfl rfl (by decide) (by decide) (fun u H locs w_3 hP hD hS => ?_)
        have hP : va_P (dC, dI) cl ([(qd, .inr (9, [f0, f1, .ref a_from, .int (nI nb), f4, f5, f6, f7, f8, f9, f10, f11, f12, f13, f14, f15, f16, f17, f18])), (a_from, .inl (cI, 8000, .inl u))] ++ va_pl L (gE cO G)) H := hP
        have hD : va_D A ([(qd, .inr (9, [f0, f1, .ref a_from, .int (nI nb), f4, f5, f6, f7, f8, f9, f10, f11, f12, f13, f14, f15, f16, f17, f18])), (a_from, .inl (cI, 8000, .inl u))] ++ va_pl L (gE cO G)) := hD
        rw [sfl] at w_3
        subst w_3
        have hP : va_P (dC, dI) cl ([(qd, .inr (9, [f0, f1, .ref a_from, .int (nI nb), f4, f5, f6, f7, f8, f9, f10, f11, f12, f13, f14, f15, f16, f17, f18])), (a_from, .inl (cI, 8000, .inl (xF (if rt + k0 < nb then va_up fr (rt + k0) (.inl (lf + k0)) else fr))))] ++ va_pl L (gE cO G)) H := hP
        have hD : va_D A ([(qd, .inr (9, [f0, f1, .ref a_from, .int (nI nb), f4, f5, f6, f7, f8, f9, f10, f11, f12, f13, f14, f15, f16, f17, f18])), (a_from, .inl (cI, 8000, .inl (xF (if rt + k0 < nb then va_up fr (rt + k0) (.inl (lf + k0)) else fr))))] ++ va_pl L (gE cO G)) := hD
        refine lv_iinc (v := nI (k0 + 1)) (lv' := [(9, .int (nI (k0 + 1))), (0, .ref qd), (1, .ref x), (2, .int (nI bs)), (3, .int (nI st)), (4, .ref pn), (5, .ref wn), (6, .int (nI lf)), (7, .int (nI wd_)), (8, .int (nI rt))]) hx hb d_Board_join_150 hl (k := 9) rfl (nI_1 _) (by decide) rfl (fun ls hl => ?_)
        refine lv_goto (tgt := 78) hx hb d_Board_join_153 (by decide) ?_
        have e9 : jn1 false (decide (G.2.1 pn 1 ≠ 0)) z lf rt nb k0 fr = (if rt + k0 < nb then va_up fr (rt + k0) (.inl (lf + k0)) else fr) := by rw [decide_eq_true c_2]; exact (if_neg (by decide)).trans (if_pos rfl)
        exact ih (k0 + 1) (if rt + k0 < nb then va_up fr (rt + k0) (.inl (lf + k0)) else fr) H locs ls (by omega) (by omega) (by rw [← hr, jn_u _ _ _ _ _ _ _ k0, if_pos (show k0 < wd_ by omega), e9]) hP hD hS (lv_sub hl [1, 2, 3, 4, 5, 6, 7, 8, 9, 0] rfl)
      · refine lv_aload_n hx hb d_Board_join_119 rfl (lv_at hl 0 rfl) ?_
        refine lv_iload hx hb d_Board_join_120 (lv_at hl 6 rfl) ?_
        refine lv_iload hx hb d_Board_join_122 (lv_at hl 9 rfl) ?_
        refine nv_iadd hx hb d_Board_join_124 ?_
        refine lv_iload hx hb d_Board_join_125 (lv_at hl 8 rfl) ?_
        refine lv_iload hx hb d_Board_join_127 (lv_at hl 9 rfl) ?_
        refine nv_iadd hx hb d_Board_join_129 ?_
        refine we_v (cx := [(qd, .inr (9, [f0, f1, .ref a_from, .int (nI nb), f4, f5, f6, f7, f8, f9, f10, f11, f12, f13, f14, f15, f16, f17, f18])), (a_from, .inl (cI, 8000, .inl (xF fr)))]) (wr := []) (pl := va_pl L (gE cO G)) (va_runV (As := [.int (nI (lf + k0)), .int (nI (rt + k0))]) (rest := []) ⟨hx, hb, hml, hown, hts⟩ (c_Board_setFrom l dC dI cB cI cL cZ cC cO (xF fr) nb (lf + k0) (nI (rt + k0)) _ hnb (by omega)) (cwV 2 hts (good_V k_793 k_795 s_Board_setFrom k_18 k_796) rfl rfl rfl (by decide +kernel) ⟨Nat.le_of_ble_eq_true rfl, Nat.le_of_ble_eq_true rfl⟩) (wc_preV (k0 := 0) (ci := 9) (r := (R_Board, F_Board, 19)) hK hP hD hS hA hF [0, 1] (by decide) rfl rfl rfl) rfl rfl hl.1 rfl (lv_room (Nat.le_of_ble_eq_true rfl)) d_Board_join_130 ⟨Nat.le_of_ble_eq_true rfl, Nat.le_of_ble_eq_true rfl⟩) hP hD hS hA [0, 1] [] rfl rfl (by decide) (by decide) (fun u H locs w_5 hP hD hS => ?_)
        have hP : va_P (dC, dI) cl ([(qd, .inr (9, [f0, f1, .ref a_from, .int (nI nb), f4, f5, f6, f7, f8, f9, f10, f11, f12, f13, f14, f15, f16, f17, f18])), (a_from, .inl (cI, 8000, .inl u))] ++ va_pl L (gE cO G)) H := hP
        have hD : va_D A ([(qd, .inr (9, [f0, f1, .ref a_from, .int (nI nb), f4, f5, f6, f7, f8, f9, f10, f11, f12, f13, f14, f15, f16, f17, f18])), (a_from, .inl (cI, 8000, .inl u))] ++ va_pl L (gE cO G)) := hD
        rw [sfl] at w_5
        subst w_5
        have hP : va_P (dC, dI) cl ([(qd, .inr (9, [f0, f1, .ref a_from, .int (nI nb), f4, f5, f6, f7, f8, f9, f10, f11, f12, f13, f14, f15, f16, f17, f18])), (a_from, .inl (cI, 8000, .inl (xF (if lf + k0 < nb then va_up fr (lf + k0) (.inl (rt + k0)) else fr))))] ++ va_pl L (gE cO G)) H := hP
        have hD : va_D A ([(qd, .inr (9, [f0, f1, .ref a_from, .int (nI nb), f4, f5, f6, f7, f8, f9, f10, f11, f12, f13, f14, f15, f16, f17, f18])), (a_from, .inl (cI, 8000, .inl (xF (if lf + k0 < nb then va_up fr (lf + k0) (.inl (rt + k0)) else fr))))] ++ va_pl L (gE cO G)) := hD
        refine lv_goto (tgt := 150) hx hb d_Board_join_133 (by decide) ?_
        refine lv_iinc (v := nI (k0 + 1)) (lv' := [(9, .int (nI (k0 + 1))), (0, .ref qd), (1, .ref x), (2, .int (nI bs)), (3, .int (nI st)), (4, .ref pn), (5, .ref wn), (6, .int (nI lf)), (7, .int (nI wd_)), (8, .int (nI rt))]) hx hb d_Board_join_150 hl (k := 9) rfl (nI_1 _) (by decide) rfl (fun ls hl => ?_)
        refine lv_goto (tgt := 78) hx hb d_Board_join_153 (by decide) ?_
        have e9 : jn1 false (decide (G.2.1 pn 1 ≠ 0)) z lf rt nb k0 fr = (if lf + k0 < nb then va_up fr (lf + k0) (.inl (rt + k0)) else fr) := by rw [decide_eq_false (fun q9 => q9 c_2)]; exact (if_neg (by decide)).trans (if_neg (by decide))
        exact ih (k0 + 1) (if lf + k0 < nb then va_up fr (lf + k0) (.inl (rt + k0)) else fr) H locs ls (by omega) (by omega) (by rw [← hr, jn_u _ _ _ _ _ _ _ k0, if_pos (show k0 < wd_ by omega), e9]) hP hD hS (lv_sub hl [1, 2, 3, 4, 5, 6, 7, 8, 9, 0] rfl)
set_option maxHeartbeats 4000000 in
set_option maxRecDepth 100000 in
/-- join(link, base, start) -/
theorem p_Board_join (l : Launch) (dC : Nat → ClassId) (dI : Nat → Nat → Nat) (cB cI cL cZ cC cO : ClassId) {qd a_from : Nat}{f0 f1 f4 f5 f6 f7 f8 f9 f10 f11 f12 f13 f14 f15 f16 f17 f18 : Value} {L : List Nat} {G : PG} (x pn s1 s2 bs st nb z : Nat) (wo : Option Nat) (fr : Nat → Nat ⊕ Nat) (t0 sz : Nat) (hL : gL L G) (hnb : nb ≤ 8000) (hxk : G.1 x = 4) (hpk : G.1 pn = 2) (hkd : G.2.1 pn 1 < 3) (hs1k : G.1 s1 = 3) (hs2k : G.1 s2 = 3) (hx0 : G.2.2.2.2.2 x 0 = some s1) (hx1 : G.2.2.2.2.2 x 1 = some s2) (hx2 : G.2.2.2.2.2 x 2 = some pn) (hx3 : G.2.2.2.2.2 x 3 = wo) (hwo : ∀ wn, wo = some wn → G.1 wn = 2 ∧ G.2.1 wn 4 < 100000) (hz : wo = none → G.2.2.1 s2 1 = some z) (hso : ∀ y, G.2.2.1 s1 2 = some y → y < 2 ^ 31) (hlo : G.2.1 s1 3 < 100) (hhi : G.2.1 s1 4 < 100) (hlh : G.2.1 s1 3 ≤ G.2.1 s1 4) (hwl : (m_bits (G.2.2.1 s1 2) (G.2.1 s1 3) (G.2.1 s1 4) (G.2.1 pn 2)) < 1000) (hlo2 : G.2.1 s2 3 < 100) (hof : G.2.1 pn 4 < 100000) (hpw : G.2.1 pn 2 < 100) (hst : st < 100000) (hbs : bs < 100000) : Met l y_Board_join w_Board_join ({ frames := 2, cells := 0, slots := 0, locals := 120 }) (va_Pc [.ref qd, .ref x, .int (nI bs), .int (nI st)] (wB2 (dC, dI) cl [(cB, .byte), (cI, .int), (cL, .long), (cZ, .boolean), (cC, .char), (cO, .object "java/lang/Object")] sz t0 ([(qd, .inr (9, [f0, f1, .ref a_from, .int (nI nb), f4, f5, f6, f7, f8, f9, f10, f11, f12, f13, f14, f15, f16, f17, f18])), (a_from, .inl (cI, 8000, .inl (xF fr)))] ++ va_pl L (gE cO G)))) (va_Qv (fun (u : Nat → Nat ⊕ Nat) => u = (jn (decide (wo = none)) (decide (G.2.1 pn 1 ≠ 0)) z (st + G.2.1 pn 4 + G.2.1 s1 3) ((match wo with | none => 0 | some wn => bs + G.2.1 wn 4 + G.2.1 s2 3)) nb (m_bits (G.2.2.1 s1 2) (G.2.1 s1 3) (G.2.1 s1 4) (G.2.1 pn 2)) 0 fr)) (fun u t => wA (dC, dI) cl [(cB, .byte), (cI, .int), (cL, .long), (cZ, .boolean), (cC, .char), (cO, .object "java/lang/Object")] (va_A ([(qd, .inr (9, [f0, f1, .ref a_from, .int (nI nb), f4, f5, f6, f7, f8, f9, f10, f11, f12, f13, f14, f15, f16, f17, f18])), (a_from, .inl (cI, 8000, .inl (xF fr)))] ++ va_pl L (gE cO G)) sz) ([(qd, .inr (9, [f0, f1, .ref a_from, .int (nI nb), f4, f5, f6, f7, f8, f9, f10, f11, f12, f13, f14, f15, f16, f17, f18])), (a_from, .inl (cI, 8000, .inl (xF u)))] ++ va_pl L (gE cO G)) t) (va_A ([(qd, .inr (9, [f0, f1, .ref a_from, .int (nI nb), f4, f5, f6, f7, f8, f9, f10, f11, f12, f13, f14, f15, f16, f17, f18])), (a_from, .inl (cI, 8000, .inl (xF fr)))] ++ va_pl L (gE cO G)) sz)) 0 0 (va_A ([(qd, .inr (9, [f0, f1, .ref a_from, .int (nI nb), f4, f5, f6, f7, f8, f9, f10, f11, f12, f13, f14, f15, f16, f17, f18])), (a_from, .inl (cI, 8000, .inl (xF fr)))] ++ va_pl L (gE cO G)) sz) := by
  refine Met.ofW (cc := b_Board_join) (maxL := 10) (ret := none) (by decide) rfl ?_
  intro p e s m args below meth c s₁ B hml hv
  obtain ⟨rfl, ⟨hsz, hP, hK, hD0, hF⟩, hE⟩ := hv
  have hx := B.exec
  have hb := B.bytes
  have hr := B.returns
  have hts := atoms_spec (ws := w_Board_join) B.pre
  have hts : ∀ w ∈ tb, w.before _ s = true := fun w h => hts w (List.mem_cons_of_mem _ h)
  have hown : s.vm.findClass R_Board = some m.cls := findClass_of_methodNamed B.named
  have hlocks := B.notSynchronized
  subst hsz
  have hD := hD0.self (sz := s.heap.size)
  generalize hAe : va_A ([(qd, .inr (9, [f0, f1, .ref a_from, .int (nI nb), f4, f5, f6, f7, f8, f9, f10, f11, f12, f13, f14, f15, f16, f17, f18])), (a_from, .inl (cI, 8000, .inl (xF fr)))] ++ va_pl L (gE cO G)) s.heap.size = A at hD hF hE ⊢
  have hA : ∀ q : Nat, s.heap.size ≤ q → A q := fun q h => by rw [← hAe]; exact Or.inr h
  have hS : va_S A s.heap s.heap [] := va_S.rf
  have hP : va_P (dC, dI) cl ([(qd, .inr (9, [f0, f1, .ref a_from, .int (nI nb), f4, f5, f6, f7, f8, f9, f10, f11, f12, f13, f14, f15, f16, f17, f18])), (a_from, .inl (cI, 8000, .inl (xF fr)))] ++ va_pl L (gE cO G)) s.heap := hP
  have hl := lv_entry ([.ref qd, .ref x, .int (nI bs), .int (nI st)]) (n := 10) (Nat.le_of_ble_eq_true rfl)
  rw [lg_entry_eq]
  generalize (lg_sl ([.ref qd, .ref x, .int (nI bs), .int (nI st)]) ++ List.replicate (10 - (lg_sl ([.ref qd, .ref x, .int (nI bs), .int (nI st)])).length) Slot.unset).toArray = ls at hl ⊢
  have hl : lv_has ls 10 [(0, .ref qd), (1, .ref x), (2, .int (nI bs)), (3, .int (nI st))] := hl
  rcases wo with _ | wn
  · skip
    refine lv_aload_n hx hb d_Board_join_0 rfl (lv_at hl 1 rfl) ?_
    refine pq_get (D := (dC, dI)) (ci := 12) (v := .ref pn) (C := R_Link) (T := F_Link) (N := 4) hx hb hts i_Link hown hK hP (gL_m hL hxk (by decide)) (gE_4 (G := G) hxk) rfl 2 (by decide) (hts _ k_660) (fun _ h9 => h9) (congrArg (fun z9 => some (va_rf z9)) hx2) d_Board_join_1 ?_
    refine lv_astore (lv' := [(4, .ref pn), (0, .ref qd), (1, .ref x), (2, .int (nI bs)), (3, .int (nI st))]) hx hb d_Board_join_4 hl (by decide) rfl (fun ls hl => ?_)
    refine lv_aload_n hx hb d_Board_join_6 rfl (lv_at hl 2 rfl) ?_
    refine pq_get (D := (dC, dI)) (ci := 12) (v := .null) (C := R_Link) (T := F_Link) (N := 4) hx hb hts i_Link hown hK hP (gL_m hL hxk (by decide)) (gE_4 (G := G) hxk) rfl 3 (by decide) (hts _ k_663) (fun _ h9 => h9) (congrArg (fun z9 => some (va_rf z9)) hx3) d_Board_join_7 ?_
    refine lv_astoreN (lv' := [(5, .null), (4, .ref pn), (0, .ref qd), (1, .ref x), (2, .int (nI bs)), (3, .int (nI st))]) hx hb d_Board_join_10 hl (by decide) rfl (fun ls hl => ?_)
    refine lv_aload hx hb d_Board_join_12 (lv_at hl 1 rfl) ?_
    refine lv_ifnonnull (tgt := 18) hx hb d_Board_join_14 (by decide) ?_
    refine lv_iload_n hx hb d_Board_join_18 rfl (lv_at hl 5 rfl) ?_
    refine lv_aload hx hb d_Board_join_19 (lv_at hl 1 rfl) ?_
    refine pq_get (D := (dC, dI)) (ci := 8) (v := .int (nI (G.2.1 pn 4))) (C := R_Wire) (T := F_Wire) (N := 7) hx hb hts i_Wire hown hK hP (gL_m hL hpk (by decide)) (gE_2 (G := G) hpk) rfl 4 (by decide) (hts _ k_228) (fun _ h9 => h9) rfl d_Board_join_21 ?_
    refine nv_iadd hx hb d_Board_join_24 ?_
    refine lv_aload_n hx hb d_Board_join_25 rfl (lv_at hl 3 rfl) ?_
    refine pq_get (D := (dC, dI)) (ci := 12) (v := .ref s1) (C := R_Link) (T := F_Link) (N := 4) hx hb hts i_Link hown hK hP (gL_m hL hxk (by decide)) (gE_4 (G := G) hxk) rfl 0 (by decide) (hts _ k_654) (fun _ h9 => h9) (congrArg (fun z9 => some (va_rf z9)) hx0) d_Board_join_26 ?_
    refine pq_get (D := (dC, dI)) (ci := 11) (v := .int (nI (G.2.1 s1 3))) (C := R_Side) (T := F_Side) (N := 5) hx hb hts i_Side hown hK hP (gL_m hL hs1k (by decide)) (gE_3 (G := G) hs1k) rfl 3 (by decide) (hts _ k_623) (fun _ h9 => h9) rfl d_Board_join_29 ?_
    refine nv_iadd hx hb d_Board_join_32 ?_
    refine lv_istore (lv' := [(6, .int (nI ((st + (G.2.1 pn 4)) + (G.2.1 s1 3)))), (5, .null), (4, .ref pn), (0, .ref qd), (1, .ref x), (2, .int (nI bs)), (3, .int (nI st))]) hx hb d_Board_join_33 hl (by decide) rfl (fun ls hl => ?_)
    refine lv_aload_n hx hb d_Board_join_35 rfl (lv_at hl 4 rfl) ?_
    refine pq_get (D := (dC, dI)) (ci := 12) (v := .ref s1) (C := R_Link) (T := F_Link) (N := 4) hx hb hts i_Link hown hK hP (gL_m hL hxk (by decide)) (gE_4 (G := G) hxk) rfl 0 (by decide) (hts _ k_654) (fun _ h9 => h9) (congrArg (fun z9 => some (va_rf z9)) hx0) d_Board_join_36 ?_
    refine lv_aload hx hb d_Board_join_39 (lv_at hl 2 rfl) ?_
    refine pq_get (D := (dC, dI)) (ci := 8) (v := .int (nI (G.2.1 pn 2))) (C := R_Wire) (T := F_Wire) (N := 7) hx hb hts i_Wire hown hK hP (gL_m hL hpk (by decide)) (gE_2 (G := G) hpk) rfl 2 (by decide) (hts _ k_223) (fun _ h9 => h9) rfl d_Board_join_41 ?_
    refine wd_i (cx := []) (wr := [(qd, .inr (9, [f0, f1, .ref a_from, .int (nI nb), f4, f5, f6, f7, f8, f9, f10, f11, f12, f13, f14, f15, f16, f17, f18])), (a_from, .inl (cI, 8000, .inl (xF fr)))]) (pl := va_pl L (gE cO G)) (va_runV (As := [.int (nI (G.2.1 pn 2))]) (rest := []) ⟨hx, hb, hml, hown, hts⟩ (p_Side_width l dC dI cB cI cL cZ cC cO s1 (G.2.1 pn 2) t0 _ hL hs1k hso hlo hhi hlh) (cwV 1 hts (good_V k_792 k_715 k_716 k_21 k_717) rfl rfl rfl (by decide +kernel) ⟨Nat.le_of_ble_eq_true rfl, Nat.le_of_ble_eq_true rfl⟩) (wd_preV (ci := 11) (r := (R_Side, F_Side, 5)) hK hP hD hS hA hF hE [] (by decide) rfl rfl (pq_at (gL_m hL hs1k (by decide)) (gE_3 (G := G) hs1k))) rfl rfl hl.1 rfl (lv_room (Nat.le_of_ble_eq_true rfl)) d_Board_join_44 ⟨Nat.le_of_ble_eq_true rfl, Nat.le_of_ble_eq_true rfl⟩) hP hD hS hA [] [0, 1] rfl rfl (by decide) (by decide) (fun r_2 _ H locs w_1 hP hD hS => ?_)
    have hP : va_P (dC, dI) cl ([(qd, .inr (9, [f0, f1, .ref a_from, .int (nI nb), f4, f5, f6, f7, f8, f9, f10, f11, f12, f13, f14, f15, f16, f17, f18])), (a_from, .inl (cI, 8000, .inl (xF fr)))] ++ va_pl L (gE cO G)) H := hP
    have hD : va_D A ([(qd, .inr (9, [f0, f1, .ref a_from, .int (nI nb), f4, f5, f6, f7, f8, f9, f10, f11, f12, f13, f14, f15, f16, f17, f18])), (a_from, .inl (cI, 8000, .inl (xF fr)))] ++ va_pl L (gE cO G)) := hD
    subst w_1
    refine lv_istore (lv' := [(7, .int (nI (m_bits (G.2.2.1 s1 2) (G.2.1 s1 3) (G.2.1 s1 4) (G.2.1 pn 2)))), (6, .int (nI ((st + (G.2.1 pn 4)) + (G.2.1 s1 3)))), (5, .null), (4, .ref pn), (0, .ref qd), (1, .ref x), (2, .int (nI bs)), (3, .int (nI st))]) hx hb d_Board_join_47 hl (by decide) rfl (fun ls hl => ?_)
    refine lv_aloadN hx hb d_Board_join_49 (lv_at hl 2 rfl) ?_
    refine lv_ifnonnullN hx hb d_Board_join_51 ?_
    refine lv_iconst (v := nI 0) hx hb d_Board_join_54 (by decide) ?_
    refine lv_goto (tgt := 73) hx hb d_Board_join_55 (by decide) ?_
    refine lv_istore (lv' := [(8, .int (nI 0)), (7, .int (nI (m_bits (G.2.2.1 s1 2) (G.2.1 s1 3) (G.2.1 s1 4) (G.2.1 pn 2)))), (6, .int (nI ((st + (G.2.1 pn 4)) + (G.2.1 s1 3)))), (5, .null), (4, .ref pn), (0, .ref qd), (1, .ref x), (2, .int (nI bs)), (3, .int (nI st))]) hx hb d_Board_join_73 hl (by decide) rfl (fun ls hl => ?_)
    refine lv_iconst (v := nI 0) hx hb d_Board_join_75 (by decide) ?_
    refine lv_istore (lv' := [(9, .int (nI 0)), (8, .int (nI 0)), (7, .int (nI (m_bits (G.2.2.1 s1 2) (G.2.1 s1 3) (G.2.1 s1 4) (G.2.1 pn 2)))), (6, .int (nI ((st + (G.2.1 pn 4)) + (G.2.1 s1 3)))), (5, .null), (4, .ref pn), (0, .ref qd), (1, .ref x), (2, .int (nI bs)), (3, .int (nI st))]) hx hb d_Board_join_76 hl (by decide) rfl (fun ls hl => ?_)
    refine lp0_Board_join (wn := 0) (F := (jn true (decide (G.2.1 pn 1 ≠ 0)) z (st + G.2.1 pn 4 + G.2.1 s1 3) 0 nb (m_bits (G.2.2.1 s1 2) (G.2.1 s1 3) (G.2.1 s1 4) (G.2.1 pn 2)) 0 fr)) (io := decide (G.2.1 pn 1 ≠ 0)) hL hnb hxk hpk (by omega) (by omega) hwl hs2k hx1 (hz rfl) hx hb hml hown hts hA hF hE hK (fun H locs ls hP hD hS hl => ?_) ((m_bits (G.2.2.1 s1 2) (G.2.1 s1 3) (G.2.1 s1 4) (G.2.1 pn 2)) + 1) 0 fr _ _ ls (by omega) (by omega) rfl hP hD hS (lv_sub hl [6, 7, 8, 9, 5, 4, 3, 2, 1, 0] rfl)
    exact wr_v hx hb hr hlocks _ rfl hK hP hD hS d_Board_join_156
  · have hw9 := hwo wn rfl
    refine lv_aload_n hx hb d_Board_join_0 rfl (lv_at hl 1 rfl) ?_
    refine pq_get (D := (dC, dI)) (ci := 12) (v := .ref pn) (C := R_Link) (T := F_Link) (N := 4) hx hb hts i_Link hown hK hP (gL_m hL hxk (by decide)) (gE_4 (G := G) hxk) rfl 2 (by decide) (hts _ k_660) (fun _ h9 => h9) (congrArg (fun z9 => some (va_rf z9)) hx2) d_Board_join_1 ?_
    refine lv_astore (lv' := [(4, .ref pn), (0, .ref qd), (1, .ref x), (2, .int (nI bs)), (3, .int (nI st))]) hx hb d_Board_join_4 hl (by decide) rfl (fun ls hl => ?_)
    refine lv_aload_n hx hb d_Board_join_6 rfl (lv_at hl 2 rfl) ?_
    refine pq_get (D := (dC, dI)) (ci := 12) (v := .ref wn) (C := R_Link) (T := F_Link) (N := 4) hx hb hts i_Link hown hK hP (gL_m hL hxk (by decide)) (gE_4 (G := G) hxk) rfl 3 (by decide) (hts _ k_663) (fun _ h9 => h9) (congrArg (fun z9 => some (va_rf z9)) hx3) d_Board_join_7 ?_
    refine lv_astore (lv' := [(5, .ref wn), (4, .ref pn), (0, .ref qd), (1, .ref x), (2, .int (nI bs)), (3, .int (nI st))]) hx hb d_Board_join_10 hl (by decide) rfl (fun ls hl => ?_)
    refine lv_aload hx hb d_Board_join_12 (lv_at hl 1 rfl) ?_
    refine lv_ifnonnull (tgt := 18) hx hb d_Board_join_14 (by decide) ?_
    refine lv_iload_n hx hb d_Board_join_18 rfl (lv_at hl 5 rfl) ?_
    refine lv_aload hx hb d_Board_join_19 (lv_at hl 1 rfl) ?_
    refine pq_get (D := (dC, dI)) (ci := 8) (v := .int (nI (G.2.1 pn 4))) (C := R_Wire) (T := F_Wire) (N := 7) hx hb hts i_Wire hown hK hP (gL_m hL hpk (by decide)) (gE_2 (G := G) hpk) rfl 4 (by decide) (hts _ k_228) (fun _ h9 => h9) rfl d_Board_join_21 ?_
    refine nv_iadd hx hb d_Board_join_24 ?_
    refine lv_aload_n hx hb d_Board_join_25 rfl (lv_at hl 3 rfl) ?_
    refine pq_get (D := (dC, dI)) (ci := 12) (v := .ref s1) (C := R_Link) (T := F_Link) (N := 4) hx hb hts i_Link hown hK hP (gL_m hL hxk (by decide)) (gE_4 (G := G) hxk) rfl 0 (by decide) (hts _ k_654) (fun _ h9 => h9) (congrArg (fun z9 => some (va_rf z9)) hx0) d_Board_join_26 ?_
    refine pq_get (D := (dC, dI)) (ci := 11) (v := .int (nI (G.2.1 s1 3))) (C := R_Side) (T := F_Side) (N := 5) hx hb hts i_Side hown hK hP (gL_m hL hs1k (by decide)) (gE_3 (G := G) hs1k) rfl 3 (by decide) (hts _ k_623) (fun _ h9 => h9) rfl d_Board_join_29 ?_
    refine nv_iadd hx hb d_Board_join_32 ?_
    refine lv_istore (lv' := [(6, .int (nI ((st + (G.2.1 pn 4)) + (G.2.1 s1 3)))), (5, .ref wn), (4, .ref pn), (0, .ref qd), (1, .ref x), (2, .int (nI bs)), (3, .int (nI st))]) hx hb d_Board_join_33 hl (by decide) rfl (fun ls hl => ?_)
    refine lv_aload_n hx hb d_Board_join_35 rfl (lv_at hl 4 rfl) ?_
    refine pq_get (D := (dC, dI)) (ci := 12) (v := .ref s1) (C := R_Link) (T := F_Link) (N := 4) hx hb hts i_Link hown hK hP (gL_m hL hxk (by decide)) (gE_4 (G := G) hxk) rfl 0 (by decide) (hts _ k_654) (fun _ h9 => h9) (congrArg (fun z9 => some (va_rf z9)) hx0) d_Board_join_36 ?_
    refine lv_aload hx hb d_Board_join_39 (lv_at hl 2 rfl) ?_
    refine pq_get (D := (dC, dI)) (ci := 8) (v := .int (nI (G.2.1 pn 2))) (C := R_Wire) (T := F_Wire) (N := 7) hx hb hts i_Wire hown hK hP (gL_m hL hpk (by decide)) (gE_2 (G := G) hpk) rfl 2 (by decide) (hts _ k_223) (fun _ h9 => h9) rfl d_Board_join_41 ?_
    refine wd_i (cx := []) (wr := [(qd, .inr (9, [f0, f1, .ref a_from, .int (nI nb), f4, f5, f6, f7, f8, f9, f10, f11, f12, f13, f14, f15, f16, f17, f18])), (a_from, .inl (cI, 8000, .inl (xF fr)))]) (pl := va_pl L (gE cO G)) (va_runV (As := [.int (nI (G.2.1 pn 2))]) (rest := []) ⟨hx, hb, hml, hown, hts⟩ (p_Side_width l dC dI cB cI cL cZ cC cO s1 (G.2.1 pn 2) t0 _ hL hs1k hso hlo hhi hlh) (cwV 1 hts (good_V k_792 k_715 k_716 k_21 k_717) rfl rfl rfl (by decide +kernel) ⟨Nat.le_of_ble_eq_true rfl, Nat.le_of_ble_eq_true rfl⟩) (wd_preV (ci := 11) (r := (R_Side, F_Side, 5)) hK hP hD hS hA hF hE [] (by decide) rfl rfl (pq_at (gL_m hL hs1k (by decide)) (gE_3 (G := G) hs1k))) rfl rfl hl.1 rfl (lv_room (Nat.le_of_ble_eq_true rfl)) d_Board_join_44 ⟨Nat.le_of_ble_eq_true rfl, Nat.le_of_ble_eq_true rfl⟩) hP hD hS hA [] [0, 1] rfl rfl (by decide) (by decide) (fun r_4 _ H locs w_3 hP hD hS => ?_)
    have hP : va_P (dC, dI) cl ([(qd, .inr (9, [f0, f1, .ref a_from, .int (nI nb), f4, f5, f6, f7, f8, f9, f10, f11, f12, f13, f14, f15, f16, f17, f18])), (a_from, .inl (cI, 8000, .inl (xF fr)))] ++ va_pl L (gE cO G)) H := hP
    have hD : va_D A ([(qd, .inr (9, [f0, f1, .ref a_from, .int (nI nb), f4, f5, f6, f7, f8, f9, f10, f11, f12, f13, f14, f15, f16, f17, f18])), (a_from, .inl (cI, 8000, .inl (xF fr)))] ++ va_pl L (gE cO G)) := hD
    subst w_3
    refine lv_istore (lv' := [(7, .int (nI (m_bits (G.2.2.1 s1 2) (G.2.1 s1 3) (G.2.1 s1 4) (G.2.1 pn 2)))), (6, .int (nI ((st + (G.2.1 pn 4)) + (G.2.1 s1 3)))), (5, .ref wn), (4, .ref pn), (0, .ref qd), (1, .ref x), (2, .int (nI bs)), (3, .int (nI st))]) hx hb d_Board_join_47 hl (by decide) rfl (fun ls hl => ?_)
    refine lv_aload hx hb d_Board_join_49 (lv_at hl 2 rfl) ?_
    refine lv_ifnonnull (tgt := 58) hx hb d_Board_join_51 (by decide) ?_
    refine lv_iload_n hx hb d_Board_join_58 rfl (lv_at hl 6 rfl) ?_
    refine lv_aload hx hb d_Board_join_59 (lv_at hl 2 rfl) ?_
    refine pq_get (D := (dC, dI)) (ci := 8) (v := .int (nI (G.2.1 wn 4))) (C := R_Wire) (T := F_Wire) (N := 7) hx hb hts i_Wire hown hK hP (gL_m hL hw9.1 (by decide)) (gE_2 (G := G) hw9.1) rfl 4 (by decide) (hts _ k_228) (fun _ h9 => h9) rfl d_Board_join_61 ?_
    refine nv_iadd hx hb d_Board_join_64 ?_
    refine lv_aload_n hx hb d_Board_join_65 rfl (lv_at hl 5 rfl) ?_
    refine pq_get (D := (dC, dI)) (ci := 12) (v := .ref s2) (C := R_Link) (T := F_Link) (N := 4) hx hb hts i_Link hown hK hP (gL_m hL hxk (by decide)) (gE_4 (G := G) hxk) rfl 1 (by decide) (hts _ k_656) (fun _ h9 => h9) (congrArg (fun z9 => some (va_rf z9)) hx1) d_Board_join_66 ?_
    refine pq_get (D := (dC, dI)) (ci := 11) (v := .int (nI (G.2.1 s2 3))) (C := R_Side) (T := F_Side) (N := 5) hx hb hts i_Side hown hK hP (gL_m hL hs2k (by decide)) (gE_3 (G := G) hs2k) rfl 3 (by decide) (hts _ k_623) (fun _ h9 => h9) rfl d_Board_join_69 ?_
    refine nv_iadd hx hb d_Board_join_72 ?_
    refine lv_istore (lv' := [(8, .int (nI ((bs + (G.2.1 wn 4)) + (G.2.1 s2 3)))), (7, .int (nI (m_bits (G.2.2.1 s1 2) (G.2.1 s1 3) (G.2.1 s1 4) (G.2.1 pn 2)))), (6, .int (nI ((st + (G.2.1 pn 4)) + (G.2.1 s1 3)))), (5, .ref wn), (4, .ref pn), (0, .ref qd), (1, .ref x), (2, .int (nI bs)), (3, .int (nI st))]) hx hb d_Board_join_73 hl (by decide) rfl (fun ls hl => ?_)
    refine lv_iconst (v := nI 0) hx hb d_Board_join_75 (by decide) ?_
    refine lv_istore (lv' := [(9, .int (nI 0)), (8, .int (nI ((bs + (G.2.1 wn 4)) + (G.2.1 s2 3)))), (7, .int (nI (m_bits (G.2.2.1 s1 2) (G.2.1 s1 3) (G.2.1 s1 4) (G.2.1 pn 2)))), (6, .int (nI ((st + (G.2.1 pn 4)) + (G.2.1 s1 3)))), (5, .ref wn), (4, .ref pn), (0, .ref qd), (1, .ref x), (2, .int (nI bs)), (3, .int (nI st))]) hx hb d_Board_join_76 hl (by decide) rfl (fun ls hl => ?_)
    refine lp1_Board_join (s2 := s2) (F := (jn false (decide (G.2.1 pn 1 ≠ 0)) z (st + G.2.1 pn 4 + G.2.1 s1 3) ((bs + (G.2.1 wn 4)) + (G.2.1 s2 3)) nb (m_bits (G.2.2.1 s1 2) (G.2.1 s1 3) (G.2.1 s1 4) (G.2.1 pn 2)) 0 fr)) hL hnb hxk hpk (by omega) (by omega) hwl hkd hx hb hml hown hts hA hF hE hK (fun H locs ls hP hD hS hl => ?_) ((m_bits (G.2.2.1 s1 2) (G.2.1 s1 3) (G.2.1 s1 4) (G.2.1 pn 2)) + 1) 0 fr _ _ ls (by omega) (by omega) rfl hP hD hS (lv_sub hl [6, 7, 8, 9, 5, 4, 3, 2, 1, 0] rfl)
    exact wr_v hx hb hr hlocks _ rfl hK hP hD hS d_Board_join_156
