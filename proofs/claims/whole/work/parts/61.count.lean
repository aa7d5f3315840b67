/-- longs that are numbers -/
def jF (f : Nat → Nat) : Nat → Int64 := fun i => lN (f i)
theorem up_j (ta : Nat → Nat) (i x : Nat) : vp_updL (jF ta) i (lN x) = jF (va_up ta i x) := by
  funext j; unfold vp_updL jF va_up; split <;> rfl
section NV5
variable {p : Program} {l : Launch} {e : Env} {R : Room} {s : State} {m : MethodId} {args : Array Value} {below : List Frame} {meth : Method} {c : Code} {H : Heap} {locs : List Loc} {cells slots : Nat} {Q : State → Prop}
variable {cc : ByteArray} {pc : Nat} {ls : Array Slot} {rest : List Value} {D : va_G} {cl : List vw_C} {tys : List (ClassId × FieldType)} {ws : va_W} {A : Nat → Prop} {H0 : Heap} {a : Nat}
theorem nv_jif_le (hexec : p.tables.exec = Jvm.exec) (hb : c.code = cc) {x y : Nat} {off : Int} {tgt : Nat} (hx : x < 2 ^ 63) (hy : y < 2 ^ 63) (hdg : decode cc pc = .ok (.ifCond .le off, 3)) (ht : (pc : Int) + off = (tgt : Int))
    (kt : x ≤ y → W p l e R s m args below meth c H locs cells slots Q (F0 m (tgt) ls (rest))) (kf : y < x → W p l e R s m args below meth c H locs cells slots Q (F0 m (pc + 3) ls (rest))) : W p l e R s m args below meth c H locs cells slots Q (F0 m (pc) ls (.int (lg_cmp (lN x) (lN y)) :: rest)) := nv_lif_le hexec hb hdg ht (fun h => kt ((pk_lLE hx hy).mp h)) (fun h => kf (Nat.lt_of_not_le (fun q => h ((pk_lLE hx hy).mpr q))))
theorem nv_jif_gt (hexec : p.tables.exec = Jvm.exec) (hb : c.code = cc) {x y : Nat} {off : Int} {tgt : Nat} (hx : x < 2 ^ 63) (hy : y < 2 ^ 63) (hdg : decode cc pc = .ok (.ifCond .gt off, 3)) (ht : (pc : Int) + off = (tgt : Int))
    (kt : y < x → W p l e R s m args below meth c H locs cells slots Q (F0 m (tgt) ls (rest))) (kf : x ≤ y → W p l e R s m args below meth c H locs cells slots Q (F0 m (pc + 3) ls (rest))) : W p l e R s m args below meth c H locs cells slots Q (F0 m (pc) ls (.int (lg_cmp (lN x) (lN y)) :: rest)) := nv_lif_gt hexec hb hdg ht (fun h => kt ((pk_lLT hy hx).mp h)) (fun h => kf (Nat.le_of_not_lt (fun q => h ((pk_lLT hy hx).mpr q))))
theorem nv_ladd (hexec : p.tables.exec = Jvm.exec) (hb : c.code = cc) {x y : Nat} (hdg : decode cc pc = .ok (.ladd, 1)) (k : W p l e R s m args below meth c H locs cells slots Q (F0 m (pc + 1) ls (.long (lN (x + y)) :: rest))) : W p l e R s m args below meth c H locs cells slots Q (F0 m (pc) ls (.long (lN y) :: .long (lN x) :: rest)) := lv_ladd hexec hb hdg (by rw [lN_add]; exact k)
theorem nv_lastJ (hexec : p.tables.exec = Jvm.exec) (hb : c.code = cc) (hK : va_K D cl tys s) (hP : va_P D cl ws H) (hD : va_D A ws) (hS : va_S A H0 H locs) (q0 t0 : Nat) {cA : ClassId} {n : Nat} {ta : Nat → Nat} (ha : ws[q0]? = some (a, .inl (cA, n, .inr (.inl (jF ta))))) (ht : tys[t0]? = some (cA, .long)) {i x : Nat} (hi : i < n) (hn : n < 2 ^ 31) (hdg : decode cc pc = .ok (.lastore, 1))
    (kk : ∀ (H1 : Heap) (locs1 : List Loc), va_P D cl (ws.set q0 (a, .inl (cA, n, .inr (.inl (jF (va_up ta i x)))))) H1 → va_D A (ws.set q0 (a, .inl (cA, n, .inr (.inl (jF (va_up ta i x)))))) → va_S A H0 H1 locs1 → W p l e R s m args below meth c H1 locs1 cells slots Q (F0 m (pc + 1) ls (rest))) : W p l e R s m args below meth c H locs cells slots Q (F0 m (pc) ls (.long (lN x) :: .int (nI i) :: .ref a :: rest)) := nv_last hexec hb hK hP hD hS q0 t0 ha ht hi hn hdg (by rw [up_j]; exact kk)
end NV5
theorem d_Model_countAll_0 : decode b_Model_countAll 0 = .ok (.iconst 0, 1) := by decide +kernel
theorem d_Model_countAll_1 : decode b_Model_countAll 1 = .ok (.istore_n 1, 1) := by decide +kernel
theorem d_Model_countAll_2 : decode b_Model_countAll 2 = .ok (.iload_n 1, 1) := by decide +kernel
theorem d_Model_countAll_3 : decode b_Model_countAll 3 = .ok (.aload_n 0, 1) := by decide +kernel
theorem d_Model_countAll_4 : decode b_Model_countAll 4 = .ok (.getfield 237, 3) := by decide +kernel
theorem d_Model_countAll_7 : decode b_Model_countAll 7 = .ok (.if_icmp .ge 263, 3) := by decide +kernel
theorem d_Model_countAll_10 : decode b_Model_countAll 10 = .ok (.iconst 0, 1) := by decide +kernel
theorem d_Model_countAll_11 : decode b_Model_countAll 11 = .ok (.istore_n 2, 1) := by decide +kernel
theorem d_Model_countAll_12 : decode b_Model_countAll 12 = .ok (.iload_n 2, 1) := by decide +kernel
theorem d_Model_countAll_13 : decode b_Model_countAll 13 = .ok (.aload_n 0, 1) := by decide +kernel
theorem d_Model_countAll_14 : decode b_Model_countAll 14 = .ok (.getfield 237, 3) := by decide +kernel
theorem d_Model_countAll_17 : decode b_Model_countAll 17 = .ok (.if_icmp .ge 247, 3) := by decide +kernel
theorem d_Model_countAll_20 : decode b_Model_countAll 20 = .ok (.lconst 0, 1) := by decide +kernel
theorem d_Model_countAll_21 : decode b_Model_countAll 21 = .ok (.lstore_n 3, 1) := by decide +kernel
theorem d_Model_countAll_22 : decode b_Model_countAll 22 = .ok (.lconst 0, 1) := by decide +kernel
theorem d_Model_countAll_23 : decode b_Model_countAll 23 = .ok (.lstore 5, 2) := by decide +kernel
theorem d_Model_countAll_25 : decode b_Model_countAll 25 = .ok (.aload_n 0, 1) := by decide +kernel
theorem d_Model_countAll_26 : decode b_Model_countAll 26 = .ok (.getfield 36, 3) := by decide +kernel
theorem d_Model_countAll_29 : decode b_Model_countAll 29 = .ok (.iload_n 2, 1) := by decide +kernel
theorem d_Model_countAll_30 : decode b_Model_countAll 30 = .ok (.iaload, 1) := by decide +kernel
theorem d_Model_countAll_31 : decode b_Model_countAll 31 = .ok (.istore 7, 2) := by decide +kernel
theorem d_Model_countAll_33 : decode b_Model_countAll 33 = .ok (.iload 7, 2) := by decide +kernel
theorem d_Model_countAll_35 : decode b_Model_countAll 35 = .ok (.aload_n 0, 1) := by decide +kernel
theorem d_Model_countAll_36 : decode b_Model_countAll 36 = .ok (.getfield 36, 3) := by decide +kernel
theorem d_Model_countAll_39 : decode b_Model_countAll 39 = .ok (.iload_n 2, 1) := by decide +kernel
theorem d_Model_countAll_40 : decode b_Model_countAll 40 = .ok (.iconst 1, 1) := by decide +kernel
theorem d_Model_countAll_41 : decode b_Model_countAll 41 = .ok (.iadd, 1) := by decide +kernel
theorem d_Model_countAll_42 : decode b_Model_countAll 42 = .ok (.iaload, 1) := by decide +kernel
theorem d_Model_countAll_43 : decode b_Model_countAll 43 = .ok (.if_icmp .ge 22, 3) := by decide +kernel
theorem d_Model_countAll_46 : decode b_Model_countAll 46 = .ok (.lload 5, 2) := by decide +kernel
theorem d_Model_countAll_48 : decode b_Model_countAll 48 = .ok (.aload_n 0, 1) := by decide +kernel
theorem d_Model_countAll_49 : decode b_Model_countAll 49 = .ok (.getfield 46, 3) := by decide +kernel
theorem d_Model_countAll_52 : decode b_Model_countAll 52 = .ok (.iload 7, 2) := by decide +kernel
theorem d_Model_countAll_54 : decode b_Model_countAll 54 = .ok (.iaload, 1) := by decide +kernel
theorem d_Model_countAll_55 : decode b_Model_countAll 55 = .ok (.i2l, 1) := by decide +kernel
theorem d_Model_countAll_56 : decode b_Model_countAll 56 = .ok (.ladd, 1) := by decide +kernel
theorem d_Model_countAll_57 : decode b_Model_countAll 57 = .ok (.lstore 5, 2) := by decide +kernel
theorem d_Model_countAll_59 : decode b_Model_countAll 59 = .ok (.iinc 7 1, 3) := by decide +kernel
theorem d_Model_countAll_62 : decode b_Model_countAll 62 = .ok (.goto (-29), 3) := by decide +kernel
theorem d_Model_countAll_65 : decode b_Model_countAll 65 = .ok (.aload_n 0, 1) := by decide +kernel
theorem d_Model_countAll_66 : decode b_Model_countAll 66 = .ok (.getfield 85, 3) := by decide +kernel
theorem d_Model_countAll_69 : decode b_Model_countAll 69 = .ok (.iload_n 2, 1) := by decide +kernel
theorem d_Model_countAll_70 : decode b_Model_countAll 70 = .ok (.iaload, 1) := by decide +kernel
theorem d_Model_countAll_71 : decode b_Model_countAll 71 = .ok (.istore 7, 2) := by decide +kernel
theorem d_Model_countAll_73 : decode b_Model_countAll 73 = .ok (.iload 7, 2) := by decide +kernel
theorem d_Model_countAll_75 : decode b_Model_countAll 75 = .ok (.aload_n 0, 1) := by decide +kernel
theorem d_Model_countAll_76 : decode b_Model_countAll 76 = .ok (.getfield 85, 3) := by decide +kernel
theorem d_Model_countAll_79 : decode b_Model_countAll 79 = .ok (.iload_n 2, 1) := by decide +kernel
theorem d_Model_countAll_80 : decode b_Model_countAll 80 = .ok (.iconst 1, 1) := by decide +kernel
theorem d_Model_countAll_81 : decode b_Model_countAll 81 = .ok (.iadd, 1) := by decide +kernel
theorem d_Model_countAll_82 : decode b_Model_countAll 82 = .ok (.iaload, 1) := by decide +kernel
theorem d_Model_countAll_83 : decode b_Model_countAll 83 = .ok (.if_icmp .ge 36, 3) := by decide +kernel
theorem d_Model_countAll_86 : decode b_Model_countAll 86 = .ok (.lload 5, 2) := by decide +kernel
theorem d_Model_countAll_88 : decode b_Model_countAll 88 = .ok (.aload_n 0, 1) := by decide +kernel
theorem d_Model_countAll_89 : decode b_Model_countAll 89 = .ok (.getfield 91, 3) := by decide +kernel
theorem d_Model_countAll_92 : decode b_Model_countAll 92 = .ok (.iload 7, 2) := by decide +kernel
theorem d_Model_countAll_94 : decode b_Model_countAll 94 = .ok (.iaload, 1) := by decide +kernel
theorem d_Model_countAll_95 : decode b_Model_countAll 95 = .ok (.ifCond .le 13, 3) := by decide +kernel
theorem d_Model_countAll_98 : decode b_Model_countAll 98 = .ok (.aload_n 0, 1) := by decide +kernel
theorem d_Model_countAll_99 : decode b_Model_countAll 99 = .ok (.getfield 91, 3) := by decide +kernel
theorem d_Model_countAll_102 : decode b_Model_countAll 102 = .ok (.iload 7, 2) := by decide +kernel
theorem d_Model_countAll_104 : decode b_Model_countAll 104 = .ok (.iaload, 1) := by decide +kernel
theorem d_Model_countAll_105 : decode b_Model_countAll 105 = .ok (.goto 4, 3) := by decide +kernel
theorem d_Model_countAll_108 : decode b_Model_countAll 108 = .ok (.iconst 0, 1) := by decide +kernel
theorem d_Model_countAll_109 : decode b_Model_countAll 109 = .ok (.i2l, 1) := by decide +kernel
theorem d_Model_countAll_110 : decode b_Model_countAll 110 = .ok (.ladd, 1) := by decide +kernel
theorem d_Model_countAll_111 : decode b_Model_countAll 111 = .ok (.lstore 5, 2) := by decide +kernel
theorem d_Model_countAll_113 : decode b_Model_countAll 113 = .ok (.iinc 7 1, 3) := by decide +kernel
theorem d_Model_countAll_116 : decode b_Model_countAll 116 = .ok (.goto (-43), 3) := by decide +kernel
theorem d_Model_countAll_119 : decode b_Model_countAll 119 = .ok (.aload_n 0, 1) := by decide +kernel
theorem d_Model_countAll_120 : decode b_Model_countAll 120 = .ok (.getfield 52, 3) := by decide +kernel
theorem d_Model_countAll_123 : decode b_Model_countAll 123 = .ok (.iload_n 2, 1) := by decide +kernel
theorem d_Model_countAll_124 : decode b_Model_countAll 124 = .ok (.iaload, 1) := by decide +kernel
theorem d_Model_countAll_125 : decode b_Model_countAll 125 = .ok (.istore 7, 2) := by decide +kernel
theorem d_Model_countAll_127 : decode b_Model_countAll 127 = .ok (.iload 7, 2) := by decide +kernel
theorem d_Model_countAll_129 : decode b_Model_countAll 129 = .ok (.aload_n 0, 1) := by decide +kernel
theorem d_Model_countAll_130 : decode b_Model_countAll 130 = .ok (.getfield 52, 3) := by decide +kernel
theorem d_Model_countAll_133 : decode b_Model_countAll 133 = .ok (.iload_n 2, 1) := by decide +kernel
theorem d_Model_countAll_134 : decode b_Model_countAll 134 = .ok (.iconst 1, 1) := by decide +kernel
theorem d_Model_countAll_135 : decode b_Model_countAll 135 = .ok (.iadd, 1) := by decide +kernel
theorem d_Model_countAll_136 : decode b_Model_countAll 136 = .ok (.iaload, 1) := by decide +kernel
theorem d_Model_countAll_137 : decode b_Model_countAll 137 = .ok (.if_icmp .ge 77, 3) := by decide +kernel
theorem d_Model_countAll_140 : decode b_Model_countAll 140 = .ok (.aload_n 0, 1) := by decide +kernel
theorem d_Model_countAll_141 : decode b_Model_countAll 141 = .ok (.getfield 97, 3) := by decide +kernel
theorem d_Model_countAll_144 : decode b_Model_countAll 144 = .ok (.iload 7, 2) := by decide +kernel
theorem d_Model_countAll_146 : decode b_Model_countAll 146 = .ok (.iaload, 1) := by decide +kernel
theorem d_Model_countAll_147 : decode b_Model_countAll 147 = .ok (.istore 8, 2) := by decide +kernel
theorem d_Model_countAll_149 : decode b_Model_countAll 149 = .ok (.lload_n 3, 1) := by decide +kernel
theorem d_Model_countAll_150 : decode b_Model_countAll 150 = .ok (.iload 8, 2) := by decide +kernel
theorem d_Model_countAll_152 : decode b_Model_countAll 152 = .ok (.iconst 1, 1) := by decide +kernel
theorem d_Model_countAll_153 : decode b_Model_countAll 153 = .ok (.if_icmp .le 15, 3) := by decide +kernel
theorem d_Model_countAll_156 : decode b_Model_countAll 156 = .ok (.aload_n 0, 1) := by decide +kernel
theorem d_Model_countAll_157 : decode b_Model_countAll 157 = .ok (.getfield 115, 3) := by decide +kernel
theorem d_Model_countAll_160 : decode b_Model_countAll 160 = .ok (.iload 8, 2) := by decide +kernel
theorem d_Model_countAll_162 : decode b_Model_countAll 162 = .ok (.iconst 2, 1) := by decide +kernel
theorem d_Model_countAll_163 : decode b_Model_countAll 163 = .ok (.isub, 1) := by decide +kernel
theorem d_Model_countAll_164 : decode b_Model_countAll 164 = .ok (.laload, 1) := by decide +kernel
theorem d_Model_countAll_165 : decode b_Model_countAll 165 = .ok (.goto 4, 3) := by decide +kernel
theorem d_Model_countAll_168 : decode b_Model_countAll 168 = .ok (.lconst 1, 1) := by decide +kernel
theorem d_Model_countAll_169 : decode b_Model_countAll 169 = .ok (.ladd, 1) := by decide +kernel
theorem d_Model_countAll_170 : decode b_Model_countAll 170 = .ok (.lstore_n 3, 1) := by decide +kernel
theorem d_Model_countAll_171 : decode b_Model_countAll 171 = .ok (.lload 5, 2) := by decide +kernel
theorem d_Model_countAll_173 : decode b_Model_countAll 173 = .ok (.iload 8, 2) := by decide +kernel
theorem d_Model_countAll_175 : decode b_Model_countAll 175 = .ok (.iconst 1, 1) := by decide +kernel
theorem d_Model_countAll_176 : decode b_Model_countAll 176 = .ok (.if_icmp .le 15, 3) := by decide +kernel
theorem d_Model_countAll_179 : decode b_Model_countAll 179 = .ok (.aload_n 0, 1) := by decide +kernel
theorem d_Model_countAll_180 : decode b_Model_countAll 180 = .ok (.getfield 119, 3) := by decide +kernel
theorem d_Model_countAll_183 : decode b_Model_countAll 183 = .ok (.iload 8, 2) := by decide +kernel
theorem d_Model_countAll_185 : decode b_Model_countAll 185 = .ok (.iconst 2, 1) := by decide +kernel
theorem d_Model_countAll_186 : decode b_Model_countAll 186 = .ok (.isub, 1) := by decide +kernel
theorem d_Model_countAll_187 : decode b_Model_countAll 187 = .ok (.laload, 1) := by decide +kernel
theorem d_Model_countAll_188 : decode b_Model_countAll 188 = .ok (.goto 17, 3) := by decide +kernel
theorem d_Model_countAll_191 : decode b_Model_countAll 191 = .ok (.iload 8, 2) := by decide +kernel
theorem d_Model_countAll_193 : decode b_Model_countAll 193 = .ok (.ifCond .ne 9, 3) := by decide +kernel
theorem d_Model_countAll_196 : decode b_Model_countAll 196 = .ok (.ldc2_w 333, 3) := by decide +kernel
theorem d_Model_countAll_199 : decode b_Model_countAll 199 = .ok (.goto 6, 3) := by decide +kernel
theorem d_Model_countAll_202 : decode b_Model_countAll 202 = .ok (.ldc2_w 335, 3) := by decide +kernel
theorem d_Model_countAll_205 : decode b_Model_countAll 205 = .ok (.ladd, 1) := by decide +kernel
theorem d_Model_countAll_206 : decode b_Model_countAll 206 = .ok (.lstore 5, 2) := by decide +kernel
theorem d_Model_countAll_208 : decode b_Model_countAll 208 = .ok (.iinc 7 1, 3) := by decide +kernel
theorem d_Model_countAll_211 : decode b_Model_countAll 211 = .ok (.goto (-84), 3) := by decide +kernel
theorem d_Model_countAll_214 : decode b_Model_countAll 214 = .ok (.aload_n 0, 1) := by decide +kernel
theorem d_Model_countAll_215 : decode b_Model_countAll 215 = .ok (.getfield 115, 3) := by decide +kernel
theorem d_Model_countAll_218 : decode b_Model_countAll 218 = .ok (.iload_n 2, 1) := by decide +kernel
theorem d_Model_countAll_219 : decode b_Model_countAll 219 = .ok (.lload_n 3, 1) := by decide +kernel
theorem d_Model_countAll_220 : decode b_Model_countAll 220 = .ok (.ldc2_w 337, 3) := by decide +kernel
theorem d_Model_countAll_223 : decode b_Model_countAll 223 = .ok (.lcmp, 1) := by decide +kernel
theorem d_Model_countAll_224 : decode b_Model_countAll 224 = .ok (.ifCond .le 9, 3) := by decide +kernel
theorem d_Model_countAll_227 : decode b_Model_countAll 227 = .ok (.ldc2_w 337, 3) := by decide +kernel
theorem d_Model_countAll_230 : decode b_Model_countAll 230 = .ok (.goto 4, 3) := by decide +kernel
theorem d_Model_countAll_233 : decode b_Model_countAll 233 = .ok (.lload_n 3, 1) := by decide +kernel
theorem d_Model_countAll_234 : decode b_Model_countAll 234 = .ok (.lastore, 1) := by decide +kernel
theorem d_Model_countAll_235 : decode b_Model_countAll 235 = .ok (.aload_n 0, 1) := by decide +kernel
theorem d_Model_countAll_236 : decode b_Model_countAll 236 = .ok (.getfield 119, 3) := by decide +kernel
theorem d_Model_countAll_239 : decode b_Model_countAll 239 = .ok (.iload_n 2, 1) := by decide +kernel
theorem d_Model_countAll_240 : decode b_Model_countAll 240 = .ok (.lload 5, 2) := by decide +kernel
theorem d_Model_countAll_242 : decode b_Model_countAll 242 = .ok (.ldc2_w 337, 3) := by decide +kernel
theorem d_Model_countAll_245 : decode b_Model_countAll 245 = .ok (.lcmp, 1) := by decide +kernel
theorem d_Model_countAll_246 : decode b_Model_countAll 246 = .ok (.ifCond .le 9, 3) := by decide +kernel
theorem d_Model_countAll_249 : decode b_Model_countAll 249 = .ok (.ldc2_w 337, 3) := by decide +kernel
theorem d_Model_countAll_252 : decode b_Model_countAll 252 = .ok (.goto 5, 3) := by decide +kernel
theorem d_Model_countAll_255 : decode b_Model_countAll 255 = .ok (.lload 5, 2) := by decide +kernel
theorem d_Model_countAll_257 : decode b_Model_countAll 257 = .ok (.lastore, 1) := by decide +kernel
theorem d_Model_countAll_258 : decode b_Model_countAll 258 = .ok (.iinc 2 1, 3) := by decide +kernel
theorem d_Model_countAll_261 : decode b_Model_countAll 261 = .ok (.goto (-249), 3) := by decide +kernel
theorem d_Model_countAll_264 : decode b_Model_countAll 264 = .ok (.iinc 1 1, 3) := by decide +kernel
theorem d_Model_countAll_267 : decode b_Model_countAll 267 = .ok (.goto (-265), 3) := by decide +kernel
theorem d_Model_countAll_270 : decode b_Model_countAll 270 = .ok (.return_, 1) := by decide +kernel
def ca_1 (ti : Nat → Option Nat) (gn bn : Nat → Nat) (i : Nat) (S : Nat × Nat) : Nat × Nat := match ti i with
  | none => (S.1 + 1, S.2 + 2)
  | some z => if 1 < z then (S.1 + gn (z - 2), S.2 + bn (z - 2)) else (S.1 + 1, S.2 + (if z = 0 then 3 else 2))
def ca_t (ti : Nat → Option Nat) (gn bn : Nat → Nat) : Nat → Nat → Nat × Nat → Nat × Nat
  | 0, _, S => S
  | k + 1, i, S => ca_t ti gn bn k (i + 1) (ca_1 ti gn bn i S)
theorem ca_t_u (ti : Nat → Option Nat) (gn bn : Nat → Nat) (e i : Nat) (S : Nat × Nat) : ca_t ti gn bn (e - i) i S = if i < e then ca_t ti gn bn (e - (i + 1)) (i + 1) (ca_1 ti gn bn i S) else S := by
  by_cases h : i < e
  · rw [if_pos h, show e - i = (e - (i + 1)) + 1 by omega]; rfl
  · rw [if_neg h, show e - i = 0 by omega]; rfl
def cap (v : Nat) : Nat := if v ≤ 1000000 then v else 1000000
theorem cap_le (v : Nat) : cap v ≤ 1000000 := by unfold cap; split <;> omega
/-- the gates and bits in chip c, out of those of its parts -/
def ca_c (pf pw_ jf : Nat → Nat) (iw : Nat → Option Nat) (tf : Nat → Nat) (ti : Nat → Option Nat) (gn bn : Nat → Nat) (c : Nat) : Nat × Nat := ca_t ti gn bn (tf (c + 1) - tf c) (tf c) (0, m_iplace pf pw_ jf iw c (jf (c + 1)))
def ca_s (pf pw_ jf : Nat → Nat) (iw : Nat → Option Nat) (tf : Nat → Nat) (ti : Nat → Option Nat) (c : Nat) (S : (Nat → Nat) × (Nat → Nat)) : (Nat → Nat) × (Nat → Nat) := (va_up S.1 c (cap (ca_c pf pw_ jf iw tf ti S.1 S.2 c).1), va_up S.2 c (cap (ca_c pf pw_ jf iw tf ti S.1 S.2 c).2))
def ca_r (pf pw_ jf : Nat → Nat) (iw : Nat → Option Nat) (tf : Nat → Nat) (ti : Nat → Option Nat) : Nat → Nat → (Nat → Nat) × (Nat → Nat) → (Nat → Nat) × (Nat → Nat)
  | 0, _, S => S
  | k + 1, c, S => ca_r pf pw_ jf iw tf ti k (c + 1) (ca_s pf pw_ jf iw tf ti c S)
theorem ca_r_u (pf pw_ jf : Nat → Nat) (iw : Nat → Option Nat) (tf : Nat → Nat) (ti : Nat → Option Nat) (e i : Nat) (S : (Nat → Nat) × (Nat → Nat)) : ca_r pf pw_ jf iw tf ti (e - i) i S = if i < e then ca_r pf pw_ jf iw tf ti (e - (i + 1)) (i + 1) (ca_s pf pw_ jf iw tf ti i S) else S := by
  by_cases h : i < e
  · rw [if_pos h, show e - i = (e - (i + 1)) + 1 by omega]; rfl
  · rw [if_neg h, show e - i = 0 by omega]; rfl
def ca_n (pf pw_ jf : Nat → Nat) (iw : Nat → Option Nat) (tf : Nat → Nat) (ti : Nat → Option Nat) (nc : Nat) : Nat → (Nat → Nat) × (Nat → Nat) → (Nat → Nat) × (Nat → Nat)
  | 0, S => S
  | k + 1, S => ca_n pf pw_ jf iw tf ti nc k (ca_r pf pw_ jf iw tf ti nc 0 S)
theorem ca_n_u (pf pw_ jf : Nat → Nat) (iw : Nat → Option Nat) (tf : Nat → Nat) (ti : Nat → Option Nat) (nc e i : Nat) (S : (Nat → Nat) × (Nat → Nat)) : ca_n pf pw_ jf iw tf ti nc (e - i) S = if i < e then ca_n pf pw_ jf iw tf ti nc (e - (i + 1)) (ca_r pf pw_ jf iw tf ti nc 0 S) else S := by
  by_cases h : i < e
  · rw [if_pos h, show e - i = (e - (i + 1)) + 1 by omega]; rfl
  · rw [if_neg h, show e - i = 0 by omega]; rfl
def cle (S : (Nat → Nat) × (Nat → Nat)) : Prop := (∀ i, S.1 i ≤ 1000000) ∧ ∀ i, S.2 i ≤ 1000000
theorem cle_s {pf pw_ jf : Nat → Nat} {iw : Nat → Option Nat} {tf : Nat → Nat} {ti : Nat → Option Nat} {c : Nat} {S : (Nat → Nat) × (Nat → Nat)} (h : cle S) : cle (ca_s pf pw_ jf iw tf ti c S) := by
  constructor
  · intro i; show va_up _ _ _ i ≤ _; unfold va_up; split; exact cap_le _; exact h.1 i
  · intro i; show va_up _ _ _ i ≤ _; unfold va_up; split; exact cap_le _; exact h.2 i
theorem cle_r {pf pw_ jf : Nat → Nat} {iw : Nat → Option Nat} {tf : Nat → Nat} {ti : Nat → Option Nat} : ∀ k c S, cle S → cle (ca_r pf pw_ jf iw tf ti k c S)
  | 0, _, _, h => h
  | k + 1, c, _, h => cle_r k (c + 1) _ (cle_s h)
theorem cle_n {pf pw_ jf : Nat → Nat} {iw : Nat → Option Nat} {tf : Nat → Nat} {ti : Nat → Option Nat} {nc : Nat} : ∀ k S, cle S → cle (ca_n pf pw_ jf iw tf ti nc k S)
  | 0, _, h => h
  | k + 1, _, h => cle_n k _ (cle_r _ _ _ h)
theorem psum_le {pw_ : Nat → Nat} (h : ∀ i, pw_ i ≤ 16) : ∀ k i n, m_psum pw_ k i n ≤ n + 16 * k
  | 0, _, n => Nat.le_refl n
  | k + 1, i, n => by have := psum_le h k (i + 1) (n + pw_ i); have := h i; show m_psum pw_ k (i + 1) (n + pw_ i) ≤ _; omega
theorem isum_le {iw : Nat → Option Nat} (h : ∀ y w, iw y = some w → w ≤ 16) : ∀ k i n, m_isum iw k i n ≤ n + 16 * k
  | 0, _, n => Nat.le_refl n
  | k + 1, i, n => by
    have h1 := isum_le h k (i + 1) (n + (iw i).getD 0)
    have h2 : (iw i).getD 0 ≤ 16 := by cases h9 : iw i with | none => decide | some w => exact h i w h9
    show m_isum iw k (i + 1) (n + (iw i).getD 0) ≤ _; omega
theorem ca_1_le {ti : Nat → Option Nat} {gn bn : Nat → Nat} (h : cle (gn, bn)) (i : Nat) (S : Nat × Nat) : (ca_1 ti gn bn i S).1 ≤ S.1 + 1000000 ∧ (ca_1 ti gn bn i S).2 ≤ S.2 + 1000000 := by
  unfold ca_1; split
  · exact ⟨Nat.add_le_add_left (by decide) _, Nat.add_le_add_left (by decide) _⟩
  · split
    · exact ⟨Nat.add_le_add_left (h.1 _) _, Nat.add_le_add_left (h.2 _) _⟩
    · exact ⟨Nat.add_le_add_left (by decide) _, Nat.add_le_add_left (by split <;> decide) _⟩
set_option maxHeartbeats 4000000 in
set_option maxRecDepth 100000 in
theorem lp1_Model_countAll {p : Program} {l : Launch} {e : Env} {s : State} {m : MethodId} {args : Array Value} {below : List Frame} {meth : Method} {c : Code} {Q : State → Prop} {A : Nat → Prop} {dC : Nat → ClassId} {dI : Nat → Nat → Nat} {cB cI cL cZ cC cO : ClassId} {qm q_pinFirst q_pinWidth q_innerFirst q_innerWidth q_partFirst q_partIs q_gatesIn q_bitsIn : Nat}{f0 f1 f2 f3 f4 f5 f6 f7 f8 f9 f10 f11 f12 f13 f14 f16 f18 f19 f20 f22 f24 f25 f26 f27 f28 f29 f30 f31 f32 f33 f34 f35 f37 f38 f40 f41 f42 f43 f45 f46 f47 f48 f49 f50 f53 f54 f55 f56 f57 f58 f59 f60 f61 f62 f63 f64 f65 f66 f67 f68 f69 f70 : Value} {nc : Nat} {pf pw_ jf tf : Nat → Nat} {iw ti : Nat → Option Nat} {gn bn : Nat → Nat} {rd ch r : Nat} (hnc : nc ≤ 8) (hpf : ∀ j, pf j ≤ 200) (hjf : ∀ j, jf j ≤ 700) (htf : ∀ j, tf j ≤ 400) (hpw : ∀ j, pw_ j ≤ 16) (hiw : ∀ y w, iw y = some w → w ≤ 16) (hti : ∀ y z, ti y = some z → z < 10) (hch : ch < nc) (hpe : pf (ch + 1) ≤ 200) (hx : p.tables.exec = Jvm.exec) (hb : c.code = b_Model_countAll) (hml : c.maxLocals = 9) (hown : s.vm.findClass R_Model = some m.cls) (hts : ∀ w ∈ tb, w.before args s = true) (hA : ∀ q, s.heap.size ≤ q → A q) (hF : stF A s) (hK : va_K (dC, dI) cl [(cB, .byte), (cI, .int), (cL, .long), (cZ, .boolean), (cC, .char), (cO, .object "java/lang/Object")] s)
    (kx : ∀  (H : Heap) (locs : List Loc) (ls : Array Slot), va_P (dC, dI) cl [(qm, .inr (13, [f0, f1, f2, f3, f4, f5, f6, f7, f8, f9, f10, f11, f12, f13, f14, .int (nI nc), f16, .ref q_pinFirst, f18, f19, f20, .ref q_pinWidth, f22, .ref q_partFirst, f24, f25, f26, f27, f28, f29, f30, f31, f32, f33, f34, f35, .ref q_innerFirst, f37, f38, .ref q_innerWidth, f40, f41, f42, f43, .ref q_partIs, f45, f46, f47, f48, f49, f50, .ref q_gatesIn, .ref q_bitsIn, f53, f54, f55, f56, f57, f58, f59, f60, f61, f62, f63, f64, f65, f66, f67, f68, f69, f70])), (q_pinFirst, .inl (cI, 18, .inl (nF pf))), (q_pinWidth, .inl (cI, 200, .inl (nF pw_))), (q_innerFirst, .inl (cI, 18, .inl (nF jf))), (q_innerWidth, .inl (cI, 700, .inl (oF iw))), (q_partFirst, .inl (cI, 18, .inl (nF tf))), (q_partIs, .inl (cI, 400, .inl (oF ti))), (q_gatesIn, .inl (cL, 16, .inr (.inl (jF gn)))), (q_bitsIn, .inl (cL, 16, .inr (.inl (jF bn))))] H → va_D A [(qm, .inr (13, [f0, f1, f2, f3, f4, f5, f6, f7, f8, f9, f10, f11, f12, f13, f14, .int (nI nc), f16, .ref q_pinFirst, f18, f19, f20, .ref q_pinWidth, f22, .ref q_partFirst, f24, f25, f26, f27, f28, f29, f30, f31, f32, f33, f34, f35, .ref q_innerFirst, f37, f38, .ref q_innerWidth, f40, f41, f42, f43, .ref q_partIs, f45, f46, f47, f48, f49, f50, .ref q_gatesIn, .ref q_bitsIn, f53, f54, f55, f56, f57, f58, f59, f60, f61, f62, f63, f64, f65, f66, f67, f68, f69, f70])), (q_pinFirst, .inl (cI, 18, .inl (nF pf))), (q_pinWidth, .inl (cI, 200, .inl (nF pw_))), (q_innerFirst, .inl (cI, 18, .inl (nF jf))), (q_innerWidth, .inl (cI, 700, .inl (oF iw))), (q_partFirst, .inl (cI, 18, .inl (nF tf))), (q_partIs, .inl (cI, 400, .inl (oF ti))), (q_gatesIn, .inl (cL, 16, .inr (.inl (jF gn)))), (q_bitsIn, .inl (cL, 16, .inr (.inl (jF bn))))] → va_S A s.heap H locs → lv_has ls 9 [(5, .long (lN r)), (3, .long (lN 0)), (2, .int (nI ch)), (1, .int (nI rd)), (0, .ref qm)] → W p l e (headSpec w_Model_countAll { frames := 0, cells := 0, slots := 0, locals := 0 }).room s m args below meth c H locs 0 0 Q (F0 m 65 ls [])) :
    ∀ (k : Nat) (i n : Nat) (H : Heap) (locs : List Loc) (ls : Array Slot), 201 < i + k → i ≤ 201 → m_psum pw_ (pf (ch + 1) - i) i n = r → va_P (dC, dI) cl [(qm, .inr (13, [f0, f1, f2, f3, f4, f5, f6, f7, f8, f9, f10, f11, f12, f13, f14, .int (nI nc), f16, .ref q_pinFirst, f18, f19, f20, .ref q_pinWidth, f22, .ref q_partFirst, f24, f25, f26, f27, f28, f29, f30, f31, f32, f33, f34, f35, .ref q_innerFirst, f37, f38, .ref q_innerWidth, f40, f41, f42, f43, .ref q_partIs, f45, f46, f47, f48, f49, f50, .ref q_gatesIn, .ref q_bitsIn, f53, f54, f55, f56, f57, f58, f59, f60, f61, f62, f63, f64, f65, f66, f67, f68, f69, f70])), (q_pinFirst, .inl (cI, 18, .inl (nF pf))), (q_pinWidth, .inl (cI, 200, .inl (nF pw_))), (q_innerFirst, .inl (cI, 18, .inl (nF jf))), (q_innerWidth, .inl (cI, 700, .inl (oF iw))), (q_partFirst, .inl (cI, 18, .inl (nF tf))), (q_partIs, .inl (cI, 400, .inl (oF ti))), (q_gatesIn, .inl (cL, 16, .inr (.inl (jF gn)))), (q_bitsIn, .inl (cL, 16, .inr (.inl (jF bn))))] H → va_D A [(qm, .inr (13, [f0, f1, f2, f3, f4, f5, f6, f7, f8, f9, f10, f11, f12, f13, f14, .int (nI nc), f16, .ref q_pinFirst, f18, f19, f20, .ref q_pinWidth, f22, .ref q_partFirst, f24, f25, f26, f27, f28, f29, f30, f31, f32, f33, f34, f35, .ref q_innerFirst, f37, f38, .ref q_innerWidth, f40, f41, f42, f43, .ref q_partIs, f45, f46, f47, f48, f49, f50, .ref q_gatesIn, .ref q_bitsIn, f53, f54, f55, f56, f57, f58, f59, f60, f61, f62, f63, f64, f65, f66, f67, f68, f69, f70])), (q_pinFirst, .inl (cI, 18, .inl (nF pf))), (q_pinWidth, .inl (cI, 200, .inl (nF pw_))), (q_innerFirst, .inl (cI, 18, .inl (nF jf))), (q_innerWidth, .inl (cI, 700, .inl (oF iw))), (q_partFirst, .inl (cI, 18, .inl (nF tf))), (q_partIs, .inl (cI, 400, .inl (oF ti))), (q_gatesIn, .inl (cL, 16, .inr (.inl (jF gn)))), (q_bitsIn, .inl (cL, 16, .inr (.inl (jF bn))))] → va_S A s.heap H locs → lv_has ls 9 [(7, .int (nI i)), (5, .long (lN n)), (3, .long (lN 0)), (2, .int (nI ch)), (1, .int (nI rd)), (0, .ref qm)] → W p l e (headSpec w_Model_countAll { frames := 0, cells := 0, slots := 0, locals := 0 }).room s m args below meth c H locs 0 0 Q (F0 m 33 ls []) := by
  intro k
  induction k with
  | zero =>
    intro i n H locs ls hk hi hr hP hD hS hl
    exfalso; omega
  | succ k ih =>
    intro i n H locs ls hk hi hr hP hD hS hl
    refine lv_iload hx hb d_Model_countAll_33 (lv_at hl 0 rfl) ?_
    refine lv_aload_n hx hb d_Model_countAll_35 rfl (lv_at hl 5 rfl) ?_
    refine va_get (D := (dC, dI)) (ci := 13) (v := .ref q_pinFirst) (C := R_Model) (T := F_Model) (N := 71) hx hb hts i_Model hown hK hP 0 rfl rfl 17 (by decide) (hts _ k_891) (fun _ h9 => h9) rfl d_Model_countAll_36 ?_
    refine lv_iload_n hx hb d_Model_countAll_39 rfl (lv_at hl 3 rfl) ?_
    refine lv_iconst (v := nI 1) hx hb d_Model_countAll_40 (by decide) ?_
    refine nv_iadd hx hb d_Model_countAll_41 ?_
    refine nv_iald hx hb hK hP 1 1 rfl rfl (by omega) (by decide) d_Model_countAll_42 ?_
    refine nv_icmp_ge (tgt := 65) hx hb (by omega) (by omega) d_Model_countAll_43 (by decide) (fun c_1 => ?_) (fun c_1 => ?_)
    · have hri : n = r := by rw [← hr, m_psum_u, if_neg (by omega)]
      subst hri
      exact kx H locs ls hP hD hS (lv_sub hl [1, 2, 3, 4, 5] rfl)
    · refine lv_lload hx hb d_Model_countAll_46 (lv_at hl 1 rfl) ?_
      refine lv_aload_n hx hb d_Model_countAll_48 rfl (lv_at hl 5 rfl) ?_
      refine va_get (D := (dC, dI)) (ci := 13) (v := .ref q_pinWidth) (C := R_Model) (T := F_Model) (N := 71) hx hb hts i_Model hown hK hP 0 rfl rfl 21 (by decide) (hts _ k_895) (fun _ h9 => h9) rfl d_Model_countAll_49 ?_
      refine lv_iload hx hb d_Model_countAll_52 (lv_at hl 0 rfl) ?_
      refine nv_iald hx hb hK hP 2 1 rfl rfl (by omega) (by decide) d_Model_countAll_54 ?_
      have hw1 := hpw i
      refine lv_i2l (v := lN (pw_ i)) hx hb d_Model_countAll_55 (nI_l (by omega)) ?_
      refine nv_ladd hx hb d_Model_countAll_56 ?_
      refine lv_lstore (lv' := [(5, .long (lN (n + (pw_ i)))), (7, .int (nI i)), (3, .long (lN 0)), (2, .int (nI ch)), (1, .int (nI rd)), (0, .ref qm)]) hx hb d_Model_countAll_57 hl (by decide) rfl (fun ls hl => ?_)
      refine lv_iinc (v := nI (i + 1)) (lv' := [(7, .int (nI (i + 1))), (5, .long (lN (n + (pw_ i)))), (3, .long (lN 0)), (2, .int (nI ch)), (1, .int (nI rd)), (0, .ref qm)]) hx hb d_Model_countAll_59 hl (k := 1) rfl (nI_1 _) (by decide) rfl (fun ls hl => ?_)
      refine lv_goto (tgt := 33) hx hb d_Model_countAll_62 (by decide) ?_
      exact ih (i + 1) (n + pw_ i) H locs ls (by omega) (by omega) (by rw [← hr, m_psum_u _ _ i, if_pos (by omega)]) hP hD hS (lv_sub hl [0, 1, 2, 3, 4, 5] rfl)
set_option maxHeartbeats 4000000 in
set_option maxRecDepth 100000 in
theorem lp2_Model_countAll {p : Program} {l : Launch} {e : Env} {s : State} {m : MethodId} {args : Array Value} {below : List Frame} {meth : Method} {c : Code} {Q : State → Prop} {A : Nat → Prop} {dC : Nat → ClassId} {dI : Nat → Nat → Nat} {cB cI cL cZ cC cO : ClassId} {qm q_pinFirst q_pinWidth q_innerFirst q_innerWidth q_partFirst q_partIs q_gatesIn q_bitsIn : Nat}{f0 f1 f2 f3 f4 f5 f6 f7 f8 f9 f10 f11 f12 f13 f14 f16 f18 f19 f20 f22 f24 f25 f26 f27 f28 f29 f30 f31 f32 f33 f34 f35 f37 f38 f40 f41 f42 f43 f45 f46 f47 f48 f49 f50 f53 f54 f55 f56 f57 f58 f59 f60 f61 f62 f63 f64 f65 f66 f67 f68 f69 f70 : Value} {nc : Nat} {pf pw_ jf tf : Nat → Nat} {iw ti : Nat → Option Nat} {gn bn : Nat → Nat} {rd ch r : Nat} (hnc : nc ≤ 8) (hpf : ∀ j, pf j ≤ 200) (hjf : ∀ j, jf j ≤ 700) (htf : ∀ j, tf j ≤ 400) (hpw : ∀ j, pw_ j ≤ 16) (hiw : ∀ y w, iw y = some w → w ≤ 16) (hti : ∀ y z, ti y = some z → z < 10) (hch : ch < nc) (hje : jf (ch + 1) ≤ 700) (hx : p.tables.exec = Jvm.exec) (hb : c.code = b_Model_countAll) (hml : c.maxLocals = 9) (hown : s.vm.findClass R_Model = some m.cls) (hts : ∀ w ∈ tb, w.before args s = true) (hA : ∀ q, s.heap.size ≤ q → A q) (hF : stF A s) (hK : va_K (dC, dI) cl [(cB, .byte), (cI, .int), (cL, .long), (cZ, .boolean), (cC, .char), (cO, .object "java/lang/Object")] s)
    (kx : ∀  (H : Heap) (locs : List Loc) (ls : Array Slot), va_P (dC, dI) cl [(qm, .inr (13, [f0, f1, f2, f3, f4, f5, f6, f7, f8, f9, f10, f11, f12, f13, f14, .int (nI nc), f16, .ref q_pinFirst, f18, f19, f20, .ref q_pinWidth, f22, .ref q_partFirst, f24, f25, f26, f27, f28, f29, f30, f31, f32, f33, f34, f35, .ref q_innerFirst, f37, f38, .ref q_innerWidth, f40, f41, f42, f43, .ref q_partIs, f45, f46, f47, f48, f49, f50, .ref q_gatesIn, .ref q_bitsIn, f53, f54, f55, f56, f57, f58, f59, f60, f61, f62, f63, f64, f65, f66, f67, f68, f69, f70])), (q_pinFirst, .inl (cI, 18, .inl (nF pf))), (q_pinWidth, .inl (cI, 200, .inl (nF pw_))), (q_innerFirst, .inl (cI, 18, .inl (nF jf))), (q_innerWidth, .inl (cI, 700, .inl (oF iw))), (q_partFirst, .inl (cI, 18, .inl (nF tf))), (q_partIs, .inl (cI, 400, .inl (oF ti))), (q_gatesIn, .inl (cL, 16, .inr (.inl (jF gn)))), (q_bitsIn, .inl (cL, 16, .inr (.inl (jF bn))))] H → va_D A [(qm, .inr (13, [f0, f1, f2, f3, f4, f5, f6, f7, f8, f9, f10, f11, f12, f13, f14, .int (nI nc), f16, .ref q_pinFirst, f18, f19, f20, .ref q_pinWidth, f22, .ref q_partFirst, f24, f25, f26, f27, f28, f29, f30, f31, f32, f33, f34, f35, .ref q_innerFirst, f37, f38, .ref q_innerWidth, f40, f41, f42, f43, .ref q_partIs, f45, f46, f47, f48, f49, f50, .ref q_gatesIn, .ref q_bitsIn, f53, f54, f55, f56, f57, f58, f59, f60, f61, f62, f63, f64, f65, f66, f67, f68, f69, f70])), (q_pinFirst, .inl (cI, 18, .inl (nF pf))), (q_pinWidth, .inl (cI, 200, .inl (nF pw_))), (q_innerFirst, .inl (cI, 18, .inl (nF jf))), (q_innerWidth, .inl (cI, 700, .inl (oF iw))), (q_partFirst, .inl (cI, 18, .inl (nF tf))), (q_partIs, .inl (cI, 400, .inl (oF ti))), (q_gatesIn, .inl (cL, 16, .inr (.inl (jF gn)))), (q_bitsIn, .inl (cL, 16, .inr (.inl (jF bn))))] → va_S A s.heap H locs → lv_has ls 9 [(5, .long (lN r)), (3, .long (lN 0)), (2, .int (nI ch)), (1, .int (nI rd)), (0, .ref qm)] → W p l e (headSpec w_Model_countAll { frames := 0, cells := 0, slots := 0, locals := 0 }).room s m args below meth c H locs 0 0 Q (F0 m 119 ls [])) :
    ∀ (k : Nat) (i n : Nat) (H : Heap) (locs : List Loc) (ls : Array Slot), 701 < i + k → i ≤ 701 → m_isum iw (jf (ch + 1) - i) i n = r → va_P (dC, dI) cl [(qm, .inr (13, [f0, f1, f2, f3, f4, f5, f6, f7, f8, f9, f10, f11, f12, f13, f14, .int (nI nc), f16, .ref q_pinFirst, f18, f19, f20, .ref q_pinWidth, f22, .ref q_partFirst, f24, f25, f26, f27, f28, f29, f30, f31, f32, f33, f34, f35, .ref q_innerFirst, f37, f38, .ref q_innerWidth, f40, f41, f42, f43, .ref q_partIs, f45, f46, f47, f48, f49, f50, .ref q_gatesIn, .ref q_bitsIn, f53, f54, f55, f56, f57, f58, f59, f60, f61, f62, f63, f64, f65, f66, f67, f68, f69, f70])), (q_pinFirst, .inl (cI, 18, .inl (nF pf))), (q_pinWidth, .inl (cI, 200, .inl (nF pw_))), (q_innerFirst, .inl (cI, 18, .inl (nF jf))), (q_innerWidth, .inl (cI, 700, .inl (oF iw))), (q_partFirst, .inl (cI, 18, .inl (nF tf))), (q_partIs, .inl (cI, 400, .inl (oF ti))), (q_gatesIn, .inl (cL, 16, .inr (.inl (jF gn)))), (q_bitsIn, .inl (cL, 16, .inr (.inl (jF bn))))] H → va_D A [(qm, .inr (13, [f0, f1, f2, f3, f4, f5, f6, f7, f8, f9, f10, f11, f12, f13, f14, .int (nI nc), f16, .ref q_pinFirst, f18, f19, f20, .ref q_pinWidth, f22, .ref q_partFirst, f24, f25, f26, f27, f28, f29, f30, f31, f32, f33, f34, f35, .ref q_innerFirst, f37, f38, .ref q_innerWidth, f40, f41, f42, f43, .ref q_partIs, f45, f46, f47, f48, f49, f50, .ref q_gatesIn, .ref q_bitsIn, f53, f54, f55, f56, f57, f58, f59, f60, f61, f62, f63, f64, f65, f66, f67, f68, f69, f70])), (q_pinFirst, .inl (cI, 18, .inl (nF pf))), (q_pinWidth, .inl (cI, 200, .inl (nF pw_))), (q_innerFirst, .inl (cI, 18, .inl (nF jf))), (q_innerWidth, .inl (cI, 700, .inl (oF iw))), (q_partFirst, .inl (cI, 18, .inl (nF tf))), (q_partIs, .inl (cI, 400, .inl (oF ti))), (q_gatesIn, .inl (cL, 16, .inr (.inl (jF gn)))), (q_bitsIn, .inl (cL, 16, .inr (.inl (jF bn))))] → va_S A s.heap H locs → lv_has ls 9 [(7, .int (nI i)), (5, .long (lN n)), (3, .long (lN 0)), (2, .int (nI ch)), (1, .int (nI rd)), (0, .ref qm)] → W p l e (headSpec w_Model_countAll { frames := 0, cells := 0, slots := 0, locals := 0 }).room s m args below meth c H locs 0 0 Q (F0 m 73 ls []) := by
  intro k
  induction k with
  | zero =>
    intro i n H locs ls hk hi hr hP hD hS hl
    exfalso; omega
  | succ k ih =>
    intro i n H locs ls hk hi hr hP hD hS hl
    refine lv_iload hx hb d_Model_countAll_73 (lv_at hl 0 rfl) ?_
    refine lv_aload_n hx hb d_Model_countAll_75 rfl (lv_at hl 5 rfl) ?_
    refine va_get (D := (dC, dI)) (ci := 13) (v := .ref q_innerFirst) (C := R_Model) (T := F_Model) (N := 71) hx hb hts i_Model hown hK hP 0 rfl rfl 36 (by decide) (hts _ k_910) (fun _ h9 => h9) rfl d_Model_countAll_76 ?_
    refine lv_iload_n hx hb d_Model_countAll_79 rfl (lv_at hl 3 rfl) ?_
    refine lv_iconst (v := nI 1) hx hb d_Model_countAll_80 (by decide) ?_
    refine nv_iadd hx hb d_Model_countAll_81 ?_
    refine nv_iald hx hb hK hP 3 1 rfl rfl (by omega) (by decide) d_Model_countAll_82 ?_
    refine nv_icmp_ge (tgt := 119) hx hb (by omega) (by omega) d_Model_countAll_83 (by decide) (fun c_1 => ?_) (fun c_1 => ?_)
    · have hri : n = r := by rw [← hr, m_isum_u, if_neg (by omega)]
      subst hri
      exact kx H locs ls hP hD hS (lv_sub hl [1, 2, 3, 4, 5] rfl)
    · refine lv_lload hx hb d_Model_countAll_86 (lv_at hl 1 rfl) ?_
      refine lv_aload_n hx hb d_Model_countAll_88 rfl (lv_at hl 5 rfl) ?_
      refine va_get (D := (dC, dI)) (ci := 13) (v := .ref q_innerWidth) (C := R_Model) (T := F_Model) (N := 71) hx hb hts i_Model hown hK hP 0 rfl rfl 39 (by decide) (hts _ k_913) (fun _ h9 => h9) rfl d_Model_countAll_89 ?_
      refine lv_iload hx hb d_Model_countAll_92 (lv_at hl 0 rfl) ?_
      refine nv_iald hx hb hK hP 4 1 rfl rfl (by omega) (by decide) d_Model_countAll_94 ?_
      refine nv_oif_le (tgt := 108) hx hb (fun z9 h9 => by have := hiw _ z9 h9; omega) d_Model_countAll_95 (by decide) (fun c_2 => ?_) (fun c_2 => ?_)
      · refine lv_iconst (v := nI 0) hx hb d_Model_countAll_108 (by decide) ?_
        refine lv_i2l (v := lN 0) hx hb d_Model_countAll_109 (nI_l (by omega)) ?_
        refine nv_ladd hx hb d_Model_countAll_110 ?_
        refine lv_lstore (lv' := [(5, .long (lN (n + 0))), (7, .int (nI i)), (3, .long (lN 0)), (2, .int (nI ch)), (1, .int (nI rd)), (0, .ref qm)]) hx hb d_Model_countAll_111 hl (by decide) rfl (fun ls hl => ?_)
        refine lv_iinc (v := nI (i + 1)) (lv' := [(7, .int (nI (i + 1))), (5, .long (lN (n + 0))), (3, .long (lN 0)), (2, .int (nI ch)), (1, .int (nI rd)), (0, .ref qm)]) hx hb d_Model_countAll_113 hl (k := 1) rfl (nI_1 _) (by decide) rfl (fun ls hl => ?_)
        refine lv_goto (tgt := 73) hx hb d_Model_countAll_116 (by decide) ?_
        exact ih (i + 1) (n + 0) H locs ls (by omega) (by omega) (by rw [← hr, m_isum_u _ _ i, if_pos (by omega), show (iw i).getD 0 = 0 by cases h9 : iw i with | none => rfl | some w9 => have := c_2 w9 h9; show w9 = 0; omega]) hP hD hS (lv_sub hl [0, 1, 2, 3, 4, 5] rfl)
      · obtain ⟨w0, hw0, hw1⟩ := c_2
        have hw2 := hiw _ _ hw0
        refine lv_aload_n hx hb d_Model_countAll_98 rfl (lv_at hl 5 rfl) ?_
        refine va_get (D := (dC, dI)) (ci := 13) (v := .ref q_innerWidth) (C := R_Model) (T := F_Model) (N := 71) hx hb hts i_Model hown hK hP 0 rfl rfl 39 (by decide) (hts _ k_913) (fun _ h9 => h9) rfl d_Model_countAll_99 ?_
        refine lv_iload hx hb d_Model_countAll_102 (lv_at hl 0 rfl) ?_
        refine nv_iald hx hb hK hP 4 1 rfl rfl (by omega) (by decide) d_Model_countAll_104 ?_
        rw [show oF iw i = nI w0 from congrArg oI hw0]
        refine lv_goto (tgt := 109) hx hb d_Model_countAll_105 (by decide) ?_
        refine lv_i2l (v := lN w0) hx hb d_Model_countAll_109 (nI_l (by omega)) ?_
        refine nv_ladd hx hb d_Model_countAll_110 ?_
        refine lv_lstore (lv' := [(5, .long (lN (n + w0))), (7, .int (nI i)), (3, .long (lN 0)), (2, .int (nI ch)), (1, .int (nI rd)), (0, .ref qm)]) hx hb d_Model_countAll_111 hl (by decide) rfl (fun ls hl => ?_)
        refine lv_iinc (v := nI (i + 1)) (lv' := [(7, .int (nI (i + 1))), (5, .long (lN (n + w0))), (3, .long (lN 0)), (2, .int (nI ch)), (1, .int (nI rd)), (0, .ref qm)]) hx hb d_Model_countAll_113 hl (k := 1) rfl (nI_1 _) (by decide) rfl (fun ls hl => ?_)
        refine lv_goto (tgt := 73) hx hb d_Model_countAll_116 (by decide) ?_
        exact ih (i + 1) (n + w0) H locs ls (by omega) (by omega) (by rw [← hr, m_isum_u _ _ i, if_pos (by omega), show (iw i).getD 0 = w0 by rw [hw0]; rfl]) hP hD hS (lv_sub hl [0, 1, 2, 3, 4, 5] rfl)
set_option maxHeartbeats 4000000 in
set_option maxRecDepth 100000 in
theorem lp3_Model_countAll {p : Program} {l : Launch} {e : Env} {s : State} {m : MethodId} {args : Array Value} {below : List Frame} {meth : Method} {c : Code} {Q : State → Prop} {A : Nat → Prop} {dC : Nat → ClassId} {dI : Nat → Nat → Nat} {cB cI cL cZ cC cO : ClassId} {qm q_pinFirst q_pinWidth q_innerFirst q_innerWidth q_partFirst q_partIs q_gatesIn q_bitsIn : Nat}{f0 f1 f2 f3 f4 f5 f6 f7 f8 f9 f10 f11 f12 f13 f14 f16 f18 f19 f20 f22 f24 f25 f26 f27 f28 f29 f30 f31 f32 f33 f34 f35 f37 f38 f40 f41 f42 f43 f45 f46 f47 f48 f49 f50 f53 f54 f55 f56 f57 f58 f59 f60 f61 f62 f63 f64 f65 f66 f67 f68 f69 f70 : Value} {nc : Nat} {pf pw_ jf tf : Nat → Nat} {iw ti : Nat → Option Nat} {gn bn : Nat → Nat} {rd ch ra rb : Nat} (hnc : nc ≤ 8) (hpf : ∀ j, pf j ≤ 200) (hjf : ∀ j, jf j ≤ 700) (htf : ∀ j, tf j ≤ 400) (hpw : ∀ j, pw_ j ≤ 16) (hiw : ∀ y w, iw y = some w → w ≤ 16) (hti : ∀ y z, ti y = some z → z < 10) (hle : cle (gn, bn)) (hch : ch < nc) (hte : tf (ch + 1) ≤ 400) (hx : p.tables.exec = Jvm.exec) (hb : c.code = b_Model_countAll) (hml : c.maxLocals = 9) (hown : s.vm.findClass R_Model = some m.cls) (hts : ∀ w ∈ tb, w.before args s = true) (hA : ∀ q, s.heap.size ≤ q → A q) (hF : stF A s) (hK : va_K (dC, dI) cl [(cB, .byte), (cI, .int), (cL, .long), (cZ, .boolean), (cC, .char), (cO, .object "java/lang/Object")] s)
    (kx : ∀  (H : Heap) (locs : List Loc) (ls : Array Slot), ra ≤ 500000000 → rb ≤ 500000000 → va_P (dC, dI) cl [(qm, .inr (13, [f0, f1, f2, f3, f4, f5, f6, f7, f8, f9, f10, f11, f12, f13, f14, .int (nI nc), f16, .ref q_pinFirst, f18, f19, f20, .ref q_pinWidth, f22, .ref q_partFirst, f24, f25, f26, f27, f28, f29, f30, f31, f32, f33, f34, f35, .ref q_innerFirst, f37, f38, .ref q_innerWidth, f40, f41, f42, f43, .ref q_partIs, f45, f46, f47, f48, f49, f50, .ref q_gatesIn, .ref q_bitsIn, f53, f54, f55, f56, f57, f58, f59, f60, f61, f62, f63, f64, f65, f66, f67, f68, f69, f70])), (q_pinFirst, .inl (cI, 18, .inl (nF pf))), (q_pinWidth, .inl (cI, 200, .inl (nF pw_))), (q_innerFirst, .inl (cI, 18, .inl (nF jf))), (q_innerWidth, .inl (cI, 700, .inl (oF iw))), (q_partFirst, .inl (cI, 18, .inl (nF tf))), (q_partIs, .inl (cI, 400, .inl (oF ti))), (q_gatesIn, .inl (cL, 16, .inr (.inl (jF gn)))), (q_bitsIn, .inl (cL, 16, .inr (.inl (jF bn))))] H → va_D A [(qm, .inr (13, [f0, f1, f2, f3, f4, f5, f6, f7, f8, f9, f10, f11, f12, f13, f14, .int (nI nc), f16, .ref q_pinFirst, f18, f19, f20, .ref q_pinWidth, f22, .ref q_partFirst, f24, f25, f26, f27, f28, f29, f30, f31, f32, f33, f34, f35, .ref q_innerFirst, f37, f38, .ref q_innerWidth, f40, f41, f42, f43, .ref q_partIs, f45, f46, f47, f48, f49, f50, .ref q_gatesIn, .ref q_bitsIn, f53, f54, f55, f56, f57, f58, f59, f60, f61, f62, f63, f64, f65, f66, f67, f68, f69, f70])), (q_pinFirst, .inl (cI, 18, .inl (nF pf))), (q_pinWidth, .inl (cI, 200, .inl (nF pw_))), (q_innerFirst, .inl (cI, 18, .inl (nF jf))), (q_innerWidth, .inl (cI, 700, .inl (oF iw))), (q_partFirst, .inl (cI, 18, .inl (nF tf))), (q_partIs, .inl (cI, 400, .inl (oF ti))), (q_gatesIn, .inl (cL, 16, .inr (.inl (jF gn)))), (q_bitsIn, .inl (cL, 16, .inr (.inl (jF bn))))] → va_S A s.heap H locs → lv_has ls 9 [(5, .long (lN rb)), (3, .long (lN ra)), (2, .int (nI ch)), (1, .int (nI rd)), (0, .ref qm)] → W p l e (headSpec w_Model_countAll { frames := 0, cells := 0, slots := 0, locals := 0 }).room s m args below meth c H locs 0 0 Q (F0 m 214 ls [])) :
    ∀ (k : Nat) (i ga n : Nat) (H : Heap) (locs : List Loc) (ls : Array Slot), 401 < i + k → i ≤ 401 → ga ≤ 1000000 * i → n ≤ 1000000 * i + 20000 → ca_t ti gn bn (tf (ch + 1) - i) i (ga, n) = (ra, rb) → va_P (dC, dI) cl [(qm, .inr (13, [f0, f1, f2, f3, f4, f5, f6, f7, f8, f9, f10, f11, f12, f13, f14, .int (nI nc), f16, .ref q_pinFirst, f18, f19, f20, .ref q_pinWidth, f22, .ref q_partFirst, f24, f25, f26, f27, f28, f29, f30, f31, f32, f33, f34, f35, .ref q_innerFirst, f37, f38, .ref q_innerWidth, f40, f41, f42, f43, .ref q_partIs, f45, f46, f47, f48, f49, f50, .ref q_gatesIn, .ref q_bitsIn, f53, f54, f55, f56, f57, f58, f59, f60, f61, f62, f63, f64, f65, f66, f67, f68, f69, f70])), (q_pinFirst, .inl (cI, 18, .inl (nF pf))), (q_pinWidth, .inl (cI, 200, .inl (nF pw_))), (q_innerFirst, .inl (cI, 18, .inl (nF jf))), (q_innerWidth, .inl (cI, 700, .inl (oF iw))), (q_partFirst, .inl (cI, 18, .inl (nF tf))), (q_partIs, .inl (cI, 400, .inl (oF ti))), (q_gatesIn, .inl (cL, 16, .inr (.inl (jF gn)))), (q_bitsIn, .inl (cL, 16, .inr (.inl (jF bn))))] H → va_D A [(qm, .inr (13, [f0, f1, f2, f3, f4, f5, f6, f7, f8, f9, f10, f11, f12, f13, f14, .int (nI nc), f16, .ref q_pinFirst, f18, f19, f20, .ref q_pinWidth, f22, .ref q_partFirst, f24, f25, f26, f27, f28, f29, f30, f31, f32, f33, f34, f35, .ref q_innerFirst, f37, f38, .ref q_innerWidth, f40, f41, f42, f43, .ref q_partIs, f45, f46, f47, f48, f49, f50, .ref q_gatesIn, .ref q_bitsIn, f53, f54, f55, f56, f57, f58, f59, f60, f61, f62, f63, f64, f65, f66, f67, f68, f69, f70])), (q_pinFirst, .inl (cI, 18, .inl (nF pf))), (q_pinWidth, .inl (cI, 200, .inl (nF pw_))), (q_innerFirst, .inl (cI, 18, .inl (nF jf))), (q_innerWidth, .inl (cI, 700, .inl (oF iw))), (q_partFirst, .inl (cI, 18, .inl (nF tf))), (q_partIs, .inl (cI, 400, .inl (oF ti))), (q_gatesIn, .inl (cL, 16, .inr (.inl (jF gn)))), (q_bitsIn, .inl (cL, 16, .inr (.inl (jF bn))))] → va_S A s.heap H locs → lv_has ls 9 [(7, .int (nI i)), (5, .long (lN n)), (3, .long (lN ga)), (2, .int (nI ch)), (1, .int (nI rd)), (0, .ref qm)] → W p l e (headSpec w_Model_countAll { frames := 0, cells := 0, slots := 0, locals := 0 }).room s m args below meth c H locs 0 0 Q (F0 m 127 ls []) := by
  intro k
  induction k with
  | zero =>
    intro i ga n H locs ls hk hi hga hn hr hP hD hS hl
    exfalso; omega
  | succ k ih =>
    intro i ga n H locs ls hk hi hga hn hr hP hD hS hl
    refine lv_iload hx hb d_Model_countAll_127 (lv_at hl 0 rfl) ?_
    refine lv_aload_n hx hb d_Model_countAll_129 rfl (lv_at hl 5 rfl) ?_
    refine va_get (D := (dC, dI)) (ci := 13) (v := .ref q_partFirst) (C := R_Model) (T := F_Model) (N := 71) hx hb hts i_Model hown hK hP 0 rfl rfl 23 (by decide) (hts _ k_897) (fun _ h9 => h9) rfl d_Model_countAll_130 ?_
    refine lv_iload_n hx hb d_Model_countAll_133 rfl (lv_at hl 3 rfl) ?_
    refine lv_iconst (v := nI 1) hx hb d_Model_countAll_134 (by decide) ?_
    refine nv_iadd hx hb d_Model_countAll_135 ?_
    refine nv_iald hx hb hK hP 5 1 rfl rfl (by omega) (by decide) d_Model_countAll_136 ?_
    refine nv_icmp_ge (tgt := 214) hx hb (by omega) (by omega) d_Model_countAll_137 (by decide) (fun c_1 => ?_) (fun c_1 => ?_)
    · have hri : (ga, n) = (ra, rb) := by rw [← hr, ca_t_u, if_neg (by omega)]
      obtain ⟨h1, h2⟩ := Prod.mk.inj hri
      subst h1
      subst h2
      exact kx H locs ls (by omega) (by omega) hP hD hS (lv_sub hl [1, 2, 3, 4, 5] rfl)
    · refine lv_aload_n hx hb d_Model_countAll_140 rfl (lv_at hl 5 rfl) ?_
      refine va_get (D := (dC, dI)) (ci := 13) (v := .ref q_partIs) (C := R_Model) (T := F_Model) (N := 71) hx hb hts i_Model hown hK hP 0 rfl rfl 44 (by decide) (hts _ k_918) (fun _ h9 => h9) rfl d_Model_countAll_141 ?_
      refine lv_iload hx hb d_Model_countAll_144 (lv_at hl 0 rfl) ?_
      refine nv_iald hx hb hK hP 6 1 rfl rfl (by omega) (by decide) d_Model_countAll_146 ?_
      refine lv_istore (lv' := [(8, .int (oI (ti i))), (7, .int (nI i)), (5, .long (lN n)), (3, .long (lN ga)), (2, .int (nI ch)), (1, .int (nI rd)), (0, .ref qm)]) hx hb d_Model_countAll_147 hl (by decide) rfl (fun ls hl => ?_)
      refine lv_lload_n hx hb d_Model_countAll_149 rfl (lv_at hl 3 rfl) ?_
      refine lv_iload hx hb d_Model_countAll_150 (lv_at hl 0 rfl) ?_
      refine lv_iconst (v := nI 1) hx hb d_Model_countAll_152 (by decide) ?_
      refine nv_onicmp_le (tgt := 168) hx hb (fun z9 h9 => by have := hti _ z9 h9; omega) (by omega) d_Model_countAll_153 (by decide) (fun c_2 => ?_) (fun c_2 => ?_)
      · refine lv_lconst (v := lN 1) hx hb d_Model_countAll_168 (by decide) ?_
        refine nv_ladd hx hb d_Model_countAll_169 ?_
        refine lv_lstore_n (lv' := [(3, .long (lN (ga + 1))), (8, .int (oI (ti i))), (7, .int (nI i)), (5, .long (lN n)), (2, .int (nI ch)), (1, .int (nI rd)), (0, .ref qm)]) hx hb d_Model_countAll_170 rfl hl (by decide) rfl (fun ls hl => ?_)
        refine lv_lload hx hb d_Model_countAll_171 (lv_at hl 3 rfl) ?_
        refine lv_iload hx hb d_Model_countAll_173 (lv_at hl 1 rfl) ?_
        refine lv_iconst (v := nI 1) hx hb d_Model_countAll_175 (by decide) ?_
        refine nv_onicmp_le (tgt := 191) hx hb (fun z9 h9 => by have := hti _ z9 h9; omega) (by omega) d_Model_countAll_176 (by decide) (fun c_3 => ?_) (fun c_3 => ?_)
        · refine lv_iload hx hb d_Model_countAll_191 (lv_at hl 1 rfl) ?_
          refine nv_oif_ne (tgt := 202) hx hb (fun z9 h9 => by have := hti _ z9 h9; omega) d_Model_countAll_193 (by decide) (fun c_4 => ?_) (fun c_4 => ?_)
          · refine lv_ldc2 (v := 2) hx hb hown (hts _ k_1275) d_Model_countAll_202 ?_
            refine W.eq (g2 := F0 m 205 ls [.long (lN 2), .long (lN n)]) rfl ?_
            refine nv_ladd hx hb d_Model_countAll_205 ?_
            refine lv_lstore (lv' := [(5, .long (lN (n + 2))), (3, .long (lN (ga + 1))), (8, .int (oI (ti i))), (7, .int (nI i)), (2, .int (nI ch)), (1, .int (nI rd)), (0, .ref qm)]) hx hb d_Model_countAll_206 hl (by decide) rfl (fun ls hl => ?_)
            refine lv_iinc (v := nI (i + 1)) (lv' := [(7, .int (nI (i + 1))), (5, .long (lN (n + 2))), (3, .long (lN (ga + 1))), (8, .int (oI (ti i))), (2, .int (nI ch)), (1, .int (nI rd)), (0, .ref qm)]) hx hb d_Model_countAll_208 hl (k := 3) rfl (nI_1 _) (by decide) rfl (fun ls hl => ?_)
            refine lv_goto (tgt := 127) hx hb d_Model_countAll_211 (by decide) ?_
            have e1 : ca_1 ti gn bn i (ga, n) = (ga + 1, n + 2) := by unfold ca_1; cases h9 : ti i with | none => rfl | some z9 => (have h8 := c_2 z9 h9; have h7 : z9 ≠ 0 := (fun q9 => c_4 (by rw [h9, q9])); show (if 1 < z9 then _ else _) = _; rw [if_neg (by omega), if_neg h7])
            have b1 := ca_1_le (ti := ti) hle i (ga, n)
            rw [e1] at b1
            have b2 : ga + 1 ≤ ga + 1000000 := b1.1
            have b3 : n + 2 ≤ n + 1000000 := b1.2
            exact ih (i + 1) (ga + 1) (n + 2) H locs ls (by omega) (by omega) (by omega) (by omega) (by rw [← hr, ca_t_u _ _ _ _ i, if_pos (by omega), e1]) hP hD hS (lv_sub hl [0, 1, 2, 4, 5, 6] rfl)
          · refine lv_ldc2 (v := 3) hx hb hown (hts _ k_1274) d_Model_countAll_196 ?_
            refine W.eq (g2 := F0 m 199 ls [.long (lN 3), .long (lN n)]) rfl ?_
            refine lv_goto (tgt := 205) hx hb d_Model_countAll_199 (by decide) ?_
            refine nv_ladd hx hb d_Model_countAll_205 ?_
            refine lv_lstore (lv' := [(5, .long (lN (n + 3))), (3, .long (lN (ga + 1))), (8, .int (oI (ti i))), (7, .int (nI i)), (2, .int (nI ch)), (1, .int (nI rd)), (0, .ref qm)]) hx hb d_Model_countAll_206 hl (by decide) rfl (fun ls hl => ?_)
            refine lv_iinc (v := nI (i + 1)) (lv' := [(7, .int (nI (i + 1))), (5, .long (lN (n + 3))), (3, .long (lN (ga + 1))), (8, .int (oI (ti i))), (2, .int (nI ch)), (1, .int (nI rd)), (0, .ref qm)]) hx hb d_Model_countAll_208 hl (k := 3) rfl (nI_1 _) (by decide) rfl (fun ls hl => ?_)
            refine lv_goto (tgt := 127) hx hb d_Model_countAll_211 (by decide) ?_
            have e1 : ca_1 ti gn bn i (ga, n) = (ga + 1, n + 3) := by unfold ca_1; rw [show ti i = some 0 from c_4]; rfl
            have b1 := ca_1_le (ti := ti) hle i (ga, n)
            rw [e1] at b1
            have b2 : ga + 1 ≤ ga + 1000000 := b1.1
            have b3 : n + 3 ≤ n + 1000000 := b1.2
            exact ih (i + 1) (ga + 1) (n + 3) H locs ls (by omega) (by omega) (by omega) (by omega) (by rw [← hr, ca_t_u _ _ _ _ i, if_pos (by omega), e1]) hP hD hS (lv_sub hl [0, 1, 2, 4, 5, 6] rfl)
        · obtain ⟨z9, h8, h7⟩ := c_3
          exact absurd (c_2 z9 h8) (by omega)
      · obtain ⟨z, hz, hz1⟩ := c_2
        have hz10 := hti i z hz
        rw [show oI (ti i) = nI z from congrArg oI hz] at hl
        refine lv_aload_n hx hb d_Model_countAll_156 rfl (lv_at hl 6 rfl) ?_
        refine va_get (D := (dC, dI)) (ci := 13) (v := .ref q_gatesIn) (C := R_Model) (T := F_Model) (N := 71) hx hb hts i_Model hown hK hP 0 rfl rfl 51 (by decide) (hts _ k_925) (fun _ h9 => h9) rfl d_Model_countAll_157 ?_
        refine lv_iload hx hb d_Model_countAll_160 (lv_at hl 0 rfl) ?_
        refine lv_iconst (v := nI 2) hx hb d_Model_countAll_162 (by decide) ?_
        refine nv_isub hx hb (by omega) d_Model_countAll_163 ?_
        refine nv_lald hx hb hK hP 7 2 rfl rfl (by omega) (by decide) d_Model_countAll_164 ?_
        refine lv_goto (tgt := 169) hx hb d_Model_countAll_165 (by decide) ?_
        refine nv_ladd hx hb d_Model_countAll_169 ?_
        refine lv_lstore_n (lv' := [(3, .long (lN (ga + (gn (z - 2))))), (8, .int (nI z)), (7, .int (nI i)), (5, .long (lN n)), (2, .int (nI ch)), (1, .int (nI rd)), (0, .ref qm)]) hx hb d_Model_countAll_170 rfl hl (by decide) rfl (fun ls hl => ?_)
        refine lv_lload hx hb d_Model_countAll_171 (lv_at hl 3 rfl) ?_
        refine lv_iload hx hb d_Model_countAll_173 (lv_at hl 1 rfl) ?_
        refine lv_iconst (v := nI 1) hx hb d_Model_countAll_175 (by decide) ?_
        refine nv_icmp_le (tgt := 191) hx hb (by omega) (by omega) d_Model_countAll_176 (by decide) (fun c_5 => ?_) (fun c_5 => ?_)
        · exact absurd c_5 (by omega)
        · refine lv_aload_n hx hb d_Model_countAll_179 rfl (lv_at hl 6 rfl) ?_
          refine va_get (D := (dC, dI)) (ci := 13) (v := .ref q_bitsIn) (C := R_Model) (T := F_Model) (N := 71) hx hb hts i_Model hown hK hP 0 rfl rfl 52 (by decide) (hts _ k_926) (fun _ h9 => h9) rfl d_Model_countAll_180 ?_
          refine lv_iload hx hb d_Model_countAll_183 (lv_at hl 1 rfl) ?_
          refine lv_iconst (v := nI 2) hx hb d_Model_countAll_185 (by decide) ?_
          refine nv_isub hx hb (by omega) d_Model_countAll_186 ?_
          refine nv_lald hx hb hK hP 8 2 rfl rfl (by omega) (by decide) d_Model_countAll_187 ?_
          refine lv_goto (tgt := 205) hx hb d_Model_countAll_188 (by decide) ?_
          refine nv_ladd hx hb d_Model_countAll_205 ?_
          refine lv_lstore (lv' := [(5, .long (lN (n + (bn (z - 2))))), (3, .long (lN (ga + (gn (z - 2))))), (8, .int (nI z)), (7, .int (nI i)), (2, .int (nI ch)), (1, .int (nI rd)), (0, .ref qm)]) hx hb d_Model_countAll_206 hl (by decide) rfl (fun ls hl => ?_)
          refine lv_iinc (v := nI (i + 1)) (lv' := [(7, .int (nI (i + 1))), (5, .long (lN (n + (bn (z - 2))))), (3, .long (lN (ga + (gn (z - 2))))), (8, .int (nI z)), (2, .int (nI ch)), (1, .int (nI rd)), (0, .ref qm)]) hx hb d_Model_countAll_208 hl (k := 3) rfl (nI_1 _) (by decide) rfl (fun ls hl => ?_)
          refine lv_goto (tgt := 127) hx hb d_Model_countAll_211 (by decide) ?_
          have e1 : ca_1 ti gn bn i (ga, n) = (ga + gn (z - 2), n + bn (z - 2)) := by unfold ca_1; rw [hz]; exact if_pos hz1
          have b1 := ca_1_le (ti := ti) hle i (ga, n)
          rw [e1] at b1
          have b2 : ga + gn (z - 2) ≤ ga + 1000000 := b1.1
          have b3 : n + bn (z - 2) ≤ n + 1000000 := b1.2
          exact ih (i + 1) (ga + gn (z - 2)) (n + bn (z - 2)) H locs ls (by omega) (by omega) (by omega) (by omega) (by rw [← hr, ca_t_u _ _ _ _ i, if_pos (by omega), e1]) hP hD hS (lv_sub hl [0, 1, 2, 4, 5, 6] rfl)
set_option maxHeartbeats 4000000 in
set_option maxRecDepth 100000 in
theorem lp4_Model_countAll {p : Program} {l : Launch} {e : Env} {s : State} {m : MethodId} {args : Array Value} {below : List Frame} {meth : Method} {c : Code} {Q : State → Prop} {A : Nat → Prop} {dC : Nat → ClassId} {dI : Nat → Nat → Nat} {cB cI cL cZ cC cO : ClassId} {qm q_pinFirst q_pinWidth q_innerFirst q_innerWidth q_partFirst q_partIs q_gatesIn q_bitsIn : Nat}{f0 f1 f2 f3 f4 f5 f6 f7 f8 f9 f10 f11 f12 f13 f14 f16 f18 f19 f20 f22 f24 f25 f26 f27 f28 f29 f30 f31 f32 f33 f34 f35 f37 f38 f40 f41 f42 f43 f45 f46 f47 f48 f49 f50 f53 f54 f55 f56 f57 f58 f59 f60 f61 f62 f63 f64 f65 f66 f67 f68 f69 f70 : Value} {nc : Nat} {pf pw_ jf tf : Nat → Nat} {iw ti : Nat → Option Nat} {rd : Nat} {F : (Nat → Nat) × (Nat → Nat)} (hnc : nc ≤ 8) (hpf : ∀ j, pf j ≤ 200) (hjf : ∀ j, jf j ≤ 700) (htf : ∀ j, tf j ≤ 400) (hpw : ∀ j, pw_ j ≤ 16) (hiw : ∀ y w, iw y = some w → w ≤ 16) (hti : ∀ y z, ti y = some z → z < 10) (hx : p.tables.exec = Jvm.exec) (hb : c.code = b_Model_countAll) (hml : c.maxLocals = 9) (hown : s.vm.findClass R_Model = some m.cls) (hts : ∀ w ∈ tb, w.before args s = true) (hA : ∀ q, s.heap.size ≤ q → A q) (hF : stF A s) (hK : va_K (dC, dI) cl [(cB, .byte), (cI, .int), (cL, .long), (cZ, .boolean), (cC, .char), (cO, .object "java/lang/Object")] s)
    (kx : ∀  (H : Heap) (locs : List Loc) (ls : Array Slot), va_P (dC, dI) cl [(qm, .inr (13, [f0, f1, f2, f3, f4, f5, f6, f7, f8, f9, f10, f11, f12, f13, f14, .int (nI nc), f16, .ref q_pinFirst, f18, f19, f20, .ref q_pinWidth, f22, .ref q_partFirst, f24, f25, f26, f27, f28, f29, f30, f31, f32, f33, f34, f35, .ref q_innerFirst, f37, f38, .ref q_innerWidth, f40, f41, f42, f43, .ref q_partIs, f45, f46, f47, f48, f49, f50, .ref q_gatesIn, .ref q_bitsIn, f53, f54, f55, f56, f57, f58, f59, f60, f61, f62, f63, f64, f65, f66, f67, f68, f69, f70])), (q_pinFirst, .inl (cI, 18, .inl (nF pf))), (q_pinWidth, .inl (cI, 200, .inl (nF pw_))), (q_innerFirst, .inl (cI, 18, .inl (nF jf))), (q_innerWidth, .inl (cI, 700, .inl (oF iw))), (q_partFirst, .inl (cI, 18, .inl (nF tf))), (q_partIs, .inl (cI, 400, .inl (oF ti))), (q_gatesIn, .inl (cL, 16, .inr (.inl (jF F.1)))), (q_bitsIn, .inl (cL, 16, .inr (.inl (jF F.2))))] H → va_D A [(qm, .inr (13, [f0, f1, f2, f3, f4, f5, f6, f7, f8, f9, f10, f11, f12, f13, f14, .int (nI nc), f16, .ref q_pinFirst, f18, f19, f20, .ref q_pinWidth, f22, .ref q_partFirst, f24, f25, f26, f27, f28, f29, f30, f31, f32, f33, f34, f35, .ref q_innerFirst, f37, f38, .ref q_innerWidth, f40, f41, f42, f43, .ref q_partIs, f45, f46, f47, f48, f49, f50, .ref q_gatesIn, .ref q_bitsIn, f53, f54, f55, f56, f57, f58, f59, f60, f61, f62, f63, f64, f65, f66, f67, f68, f69, f70])), (q_pinFirst, .inl (cI, 18, .inl (nF pf))), (q_pinWidth, .inl (cI, 200, .inl (nF pw_))), (q_innerFirst, .inl (cI, 18, .inl (nF jf))), (q_innerWidth, .inl (cI, 700, .inl (oF iw))), (q_partFirst, .inl (cI, 18, .inl (nF tf))), (q_partIs, .inl (cI, 400, .inl (oF ti))), (q_gatesIn, .inl (cL, 16, .inr (.inl (jF F.1)))), (q_bitsIn, .inl (cL, 16, .inr (.inl (jF F.2))))] → va_S A s.heap H locs → lv_has ls 9 [(1, .int (nI rd)), (0, .ref qm)] → W p l e (headSpec w_Model_countAll { frames := 0, cells := 0, slots := 0, locals := 0 }).room s m args below meth c H locs 0 0 Q (F0 m 264 ls [])) :
    ∀ (k : Nat) (ch : Nat) (gn bn : Nat → Nat) (H : Heap) (locs : List Loc) (ls : Array Slot), nc < ch + k → ch ≤ nc → cle (gn, bn) → ca_r pf pw_ jf iw tf ti (nc - ch) ch (gn, bn) = F → va_P (dC, dI) cl [(qm, .inr (13, [f0, f1, f2, f3, f4, f5, f6, f7, f8, f9, f10, f11, f12, f13, f14, .int (nI nc), f16, .ref q_pinFirst, f18, f19, f20, .ref q_pinWidth, f22, .ref q_partFirst, f24, f25, f26, f27, f28, f29, f30, f31, f32, f33, f34, f35, .ref q_innerFirst, f37, f38, .ref q_innerWidth, f40, f41, f42, f43, .ref q_partIs, f45, f46, f47, f48, f49, f50, .ref q_gatesIn, .ref q_bitsIn, f53, f54, f55, f56, f57, f58, f59, f60, f61, f62, f63, f64, f65, f66, f67, f68, f69, f70])), (q_pinFirst, .inl (cI, 18, .inl (nF pf))), (q_pinWidth, .inl (cI, 200, .inl (nF pw_))), (q_innerFirst, .inl (cI, 18, .inl (nF jf))), (q_innerWidth, .inl (cI, 700, .inl (oF iw))), (q_partFirst, .inl (cI, 18, .inl (nF tf))), (q_partIs, .inl (cI, 400, .inl (oF ti))), (q_gatesIn, .inl (cL, 16, .inr (.inl (jF gn)))), (q_bitsIn, .inl (cL, 16, .inr (.inl (jF bn))))] H → va_D A [(qm, .inr (13, [f0, f1, f2, f3, f4, f5, f6, f7, f8, f9, f10, f11, f12, f13, f14, .int (nI nc), f16, .ref q_pinFirst, f18, f19, f20, .ref q_pinWidth, f22, .ref q_partFirst, f24, f25, f26, f27, f28, f29, f30, f31, f32, f33, f34, f35, .ref q_innerFirst, f37, f38, .ref q_innerWidth, f40, f41, f42, f43, .ref q_partIs, f45, f46, f47, f48, f49, f50, .ref q_gatesIn, .ref q_bitsIn, f53, f54, f55, f56, f57, f58, f59, f60, f61, f62, f63, f64, f65, f66, f67, f68, f69, f70])), (q_pinFirst, .inl (cI, 18, .inl (nF pf))), (q_pinWidth, .inl (cI, 200, .inl (nF pw_))), (q_innerFirst, .inl (cI, 18, .inl (nF jf))), (q_innerWidth, .inl (cI, 700, .inl (oF iw))), (q_partFirst, .inl (cI, 18, .inl (nF tf))), (q_partIs, .inl (cI, 400, .inl (oF ti))), (q_gatesIn, .inl (cL, 16, .inr (.inl (jF gn)))), (q_bitsIn, .inl (cL, 16, .inr (.inl (jF bn))))] → va_S A s.heap H locs → lv_has ls 9 [(2, .int (nI ch)), (1, .int (nI rd)), (0, .ref qm)] → W p l e (headSpec w_Model_countAll { frames := 0, cells := 0, slots := 0, locals := 0 }).room s m args below meth c H locs 0 0 Q (F0 m 12 ls []) := by
  intro k
  induction k with
  | zero =>
    intro ch gn bn H locs ls hk hc hle hr hP hD hS hl
    exfalso; omega
  | succ k ih =>
    intro ch gn bn H locs ls hk hc hle hr hP hD hS hl
    refine lv_iload_n hx hb d_Model_countAll_12 rfl (lv_at hl 0 rfl) ?_
    refine lv_aload_n hx hb d_Model_countAll_13 rfl (lv_at hl 2 rfl) ?_
    refine va_get (D := (dC, dI)) (ci := 13) (v := .int (nI nc)) (C := R_Model) (T := F_Model) (N := 71) hx hb hts i_Model hown hK hP 0 rfl rfl 15 (by decide) (hts _ k_889) (fun _ h9 => h9) rfl d_Model_countAll_14 ?_
    refine nv_icmp_ge (tgt := 264) hx hb (by omega) (by omega) d_Model_countAll_17 (by decide) (fun c_1 => ?_) (fun c_1 => ?_)
    · have hri : (gn, bn) = F := by rw [← hr, ca_r_u, if_neg (by omega)]
      subst hri
      exact kx H locs ls hP hD hS (lv_sub hl [1, 2] rfl)
    · refine lv_lconst (v := lN 0) hx hb d_Model_countAll_20 (by decide) ?_
      refine lv_lstore_n (lv' := [(3, .long (lN 0)), (2, .int (nI ch)), (1, .int (nI rd)), (0, .ref qm)]) hx hb d_Model_countAll_21 rfl hl (by decide) rfl (fun ls hl => ?_)
      refine lv_lconst (v := lN 0) hx hb d_Model_countAll_22 (by decide) ?_
      refine lv_lstore (lv' := [(5, .long (lN 0)), (3, .long (lN 0)), (2, .int (nI ch)), (1, .int (nI rd)), (0, .ref qm)]) hx hb d_Model_countAll_23 hl (by decide) rfl (fun ls hl => ?_)
      refine lv_aload_n hx hb d_Model_countAll_25 rfl (lv_at hl 4 rfl) ?_
      refine va_get (D := (dC, dI)) (ci := 13) (v := .ref q_pinFirst) (C := R_Model) (T := F_Model) (N := 71) hx hb hts i_Model hown hK hP 0 rfl rfl 17 (by decide) (hts _ k_891) (fun _ h9 => h9) rfl d_Model_countAll_26 ?_
      refine lv_iload_n hx hb d_Model_countAll_29 rfl (lv_at hl 2 rfl) ?_
      refine nv_iald hx hb hK hP 1 1 rfl rfl (by omega) (by decide) d_Model_countAll_30 ?_
      refine lv_istore (lv' := [(7, .int (nI (pf ch))), (5, .long (lN 0)), (3, .long (lN 0)), (2, .int (nI ch)), (1, .int (nI rd)), (0, .ref qm)]) hx hb d_Model_countAll_31 hl (by decide) rfl (fun ls hl => ?_)
      have hp0 := hpf ch
      have hj0 := hjf ch
      have ht0 := htf ch
      have hp1 := hpf (ch + 1)
      have hj1 := hjf (ch + 1)
      have ht1 := htf (ch + 1)
      refine lp1_Model_countAll (r := m_psum pw_ (pf (ch + 1) - pf ch) (pf ch) 0) hnc hpf hjf htf hpw hiw hti (by omega) hp1 hx hb hml hown hts hA hF hK (fun H locs ls hP hD hS hl => ?_) 202 (pf ch) 0 _ _ ls (by omega) (by omega) rfl hP hD hS (lv_sub hl [0, 1, 2, 3, 4, 5] rfl)
      refine lv_aload_n hx hb d_Model_countAll_65 rfl (lv_at hl 4 rfl) ?_
      refine va_get (D := (dC, dI)) (ci := 13) (v := .ref q_innerFirst) (C := R_Model) (T := F_Model) (N := 71) hx hb hts i_Model hown hK hP 0 rfl rfl 36 (by decide) (hts _ k_910) (fun _ h9 => h9) rfl d_Model_countAll_66 ?_
      refine lv_iload_n hx hb d_Model_countAll_69 rfl (lv_at hl 2 rfl) ?_
      refine nv_iald hx hb hK hP 3 1 rfl rfl (by omega) (by decide) d_Model_countAll_70 ?_
      refine lv_istore (lv' := [(7, .int (nI (jf ch))), (5, .long (lN (m_psum pw_ (pf (ch + 1) - pf ch) (pf ch) 0))), (3, .long (lN 0)), (2, .int (nI ch)), (1, .int (nI rd)), (0, .ref qm)]) hx hb d_Model_countAll_71 hl (by decide) rfl (fun ls hl => ?_)
      refine lp2_Model_countAll (r := m_iplace pf pw_ jf iw ch (jf (ch + 1))) hnc hpf hjf htf hpw hiw hti (by omega) hj1 hx hb hml hown hts hA hF hK (fun H locs ls hP hD hS hl => ?_) 702 (jf ch) (m_psum pw_ (pf (ch + 1) - pf ch) (pf ch) 0) _ _ ls (by omega) (by omega) rfl hP hD hS (lv_sub hl [0, 1, 2, 3, 4, 5] rfl)
      refine lv_aload_n hx hb d_Model_countAll_119 rfl (lv_at hl 4 rfl) ?_
      refine va_get (D := (dC, dI)) (ci := 13) (v := .ref q_partFirst) (C := R_Model) (T := F_Model) (N := 71) hx hb hts i_Model hown hK hP 0 rfl rfl 23 (by decide) (hts _ k_897) (fun _ h9 => h9) rfl d_Model_countAll_120 ?_
      refine lv_iload_n hx hb d_Model_countAll_123 rfl (lv_at hl 2 rfl) ?_
      refine nv_iald hx hb hK hP 5 1 rfl rfl (by omega) (by decide) d_Model_countAll_124 ?_
      refine lv_istore (lv' := [(7, .int (nI (tf ch))), (5, .long (lN (m_iplace pf pw_ jf iw ch (jf (ch + 1))))), (3, .long (lN 0)), (2, .int (nI ch)), (1, .int (nI rd)), (0, .ref qm)]) hx hb d_Model_countAll_125 hl (by decide) rfl (fun ls hl => ?_)
      have hob : m_iplace pf pw_ jf iw ch (jf (ch + 1)) ≤ 20000 := by have q1 := psum_le hpw (pf (ch + 1) - pf ch) (pf ch) 0; have q2 := isum_le hiw (jf (ch + 1) - jf ch) (jf ch) (m_psum pw_ (pf (ch + 1) - pf ch) (pf ch) 0); unfold m_iplace; omega
      refine lp3_Model_countAll (ra := (ca_c pf pw_ jf iw tf ti gn bn ch).1) (rb := (ca_c pf pw_ jf iw tf ti gn bn ch).2) hnc hpf hjf htf hpw hiw hti hle (by omega) ht1 hx hb hml hown hts hA hF hK (fun H locs ls hga hgb hP hD hS hl => ?_) 402 (tf ch) 0 (m_iplace pf pw_ jf iw ch (jf (ch + 1))) _ _ ls (by omega) (by omega) (by omega) (by omega) rfl hP hD hS (lv_sub hl [0, 1, 2, 3, 4, 5] rfl)
      refine lv_aload_n hx hb d_Model_countAll_214 rfl (lv_at hl 4 rfl) ?_
      refine va_get (D := (dC, dI)) (ci := 13) (v := .ref q_gatesIn) (C := R_Model) (T := F_Model) (N := 71) hx hb hts i_Model hown hK hP 0 rfl rfl 51 (by decide) (hts _ k_925) (fun _ h9 => h9) rfl d_Model_countAll_215 ?_
      refine lv_iload_n hx hb d_Model_countAll_218 rfl (lv_at hl 2 rfl) ?_
      refine lv_lload_n hx hb d_Model_countAll_219 rfl (lv_at hl 1 rfl) ?_
      refine lv_ldc2 (v := 1000000) hx hb hown (hts _ k_1276) d_Model_countAll_220 ?_
      refine W.eq (g2 := F0 m 223 ls [.long (lN 1000000), .long (lN ((ca_c pf pw_ jf iw tf ti gn bn ch).1)), .int (nI ch), .ref q_gatesIn]) rfl ?_
      refine W.lcmp hx hb d_Model_countAll_223 ?_
      refine nv_jif_le (tgt := 233) hx hb (by omega) (by omega) d_Model_countAll_224 (by decide) (fun c_2 => ?_) (fun c_2 => ?_)
      · refine lv_lload_n hx hb d_Model_countAll_233 rfl (lv_at hl 1 rfl) ?_
        refine nv_lastJ (x := (ca_c pf pw_ jf iw tf ti gn bn ch).1) hx hb hK hP hD hS 7 2 rfl rfl (by omega) (by decide) d_Model_countAll_234 (fun H locs hP hD hS => ?_)
        have hP : va_P (dC, dI) cl [(qm, .inr (13, [f0, f1, f2, f3, f4, f5, f6, f7, f8, f9, f10, f11, f12, f13, f14, .int (nI nc), f16, .ref q_pinFirst, f18, f19, f20, .ref q_pinWidth, f22, .ref q_partFirst, f24, f25, f26, f27, f28, f29, f30, f31, f32, f33, f34, f35, .ref q_innerFirst, f37, f38, .ref q_innerWidth, f40, f41, f42, f43, .ref q_partIs, f45, f46, f47, f48, f49, f50, .ref q_gatesIn, .ref q_bitsIn, f53, f54, f55, f56, f57, f58, f59, f60, f61, f62, f63, f64, f65, f66, f67, f68, f69, f70])), (q_pinFirst, .inl (cI, 18, .inl (nF pf))), (q_pinWidth, .inl (cI, 200, .inl (nF pw_))), (q_innerFirst, .inl (cI, 18, .inl (nF jf))), (q_innerWidth, .inl (cI, 700, .inl (oF iw))), (q_partFirst, .inl (cI, 18, .inl (nF tf))), (q_partIs, .inl (cI, 400, .inl (oF ti))), (q_gatesIn, .inl (cL, 16, .inr (.inl (jF (va_up gn ch ((ca_c pf pw_ jf iw tf ti gn bn ch).1)))))), (q_bitsIn, .inl (cL, 16, .inr (.inl (jF bn))))] H := hP
        have hD : va_D A [(qm, .inr (13, [f0, f1, f2, f3, f4, f5, f6, f7, f8, f9, f10, f11, f12, f13, f14, .int (nI nc), f16, .ref q_pinFirst, f18, f19, f20, .ref q_pinWidth, f22, .ref q_partFirst, f24, f25, f26, f27, f28, f29, f30, f31, f32, f33, f34, f35, .ref q_innerFirst, f37, f38, .ref q_innerWidth, f40, f41, f42, f43, .ref q_partIs, f45, f46, f47, f48, f49, f50, .ref q_gatesIn, .ref q_bitsIn, f53, f54, f55, f56, f57, f58, f59, f60, f61, f62, f63, f64, f65, f66, f67, f68, f69, f70])), (q_pinFirst, .inl (cI, 18, .inl (nF pf))), (q_pinWidth, .inl (cI, 200, .inl (nF pw_))), (q_innerFirst, .inl (cI, 18, .inl (nF jf))), (q_innerWidth, .inl (cI, 700, .inl (oF iw))), (q_partFirst, .inl (cI, 18, .inl (nF tf))), (q_partIs, .inl (cI, 400, .inl (oF ti))), (q_gatesIn, .inl (cL, 16, .inr (.inl (jF (va_up gn ch ((ca_c pf pw_ jf iw tf ti gn bn ch).1)))))), (q_bitsIn, .inl (cL, 16, .inr (.inl (jF bn))))] := hD
        refine lv_aload_n hx hb d_Model_countAll_235 rfl (lv_at hl 4 rfl) ?_
        refine va_get (D := (dC, dI)) (ci := 13) (v := .ref q_bitsIn) (C := R_Model) (T := F_Model) (N := 71) hx hb hts i_Model hown hK hP 0 rfl rfl 52 (by decide) (hts _ k_926) (fun _ h9 => h9) rfl d_Model_countAll_236 ?_
        refine lv_iload_n hx hb d_Model_countAll_239 rfl (lv_at hl 2 rfl) ?_
        refine lv_lload hx hb d_Model_countAll_240 (lv_at hl 0 rfl) ?_
        refine lv_ldc2 (v := 1000000) hx hb hown (hts _ k_1276) d_Model_countAll_242 ?_
        refine W.eq (g2 := F0 m 245 ls [.long (lN 1000000), .long (lN ((ca_c pf pw_ jf iw tf ti gn bn ch).2)), .int (nI ch), .ref q_bitsIn]) rfl ?_
        refine W.lcmp hx hb d_Model_countAll_245 ?_
        refine nv_jif_le (tgt := 255) hx hb (by omega) (by omega) d_Model_countAll_246 (by decide) (fun c_3 => ?_) (fun c_3 => ?_)
        · refine lv_lload hx hb d_Model_countAll_255 (lv_at hl 0 rfl) ?_
          refine nv_lastJ (x := (ca_c pf pw_ jf iw tf ti gn bn ch).2) hx hb hK hP hD hS 8 2 rfl rfl (by omega) (by decide) d_Model_countAll_257 (fun H locs hP hD hS => ?_)
          have hP : va_P (dC, dI) cl [(qm, .inr (13, [f0, f1, f2, f3, f4, f5, f6, f7, f8, f9, f10, f11, f12, f13, f14, .int (nI nc), f16, .ref q_pinFirst, f18, f19, f20, .ref q_pinWidth, f22, .ref q_partFirst, f24, f25, f26, f27, f28, f29, f30, f31, f32, f33, f34, f35, .ref q_innerFirst, f37, f38, .ref q_innerWidth, f40, f41, f42, f43, .ref q_partIs, f45, f46, f47, f48, f49, f50, .ref q_gatesIn, .ref q_bitsIn, f53, f54, f55, f56, f57, f58, f59, f60, f61, f62, f63, f64, f65, f66, f67, f68, f69, f70])), (q_pinFirst, .inl (cI, 18, .inl (nF pf))), (q_pinWidth, .inl (cI, 200, .inl (nF pw_))), (q_innerFirst, .inl (cI, 18, .inl (nF jf))), (q_innerWidth, .inl (cI, 700, .inl (oF iw))), (q_partFirst, .inl (cI, 18, .inl (nF tf))), (q_partIs, .inl (cI, 400, .inl (oF ti))), (q_gatesIn, .inl (cL, 16, .inr (.inl (jF (va_up gn ch ((ca_c pf pw_ jf iw tf ti gn bn ch).1)))))), (q_bitsIn, .inl (cL, 16, .inr (.inl (jF (va_up bn ch ((ca_c pf pw_ jf iw tf ti gn bn ch).2))))))] H := hP
          have hD : va_D A [(qm, .inr (13, [f0, f1, f2, f3, f4, f5, f6, f7, f8, f9, f10, f11, f12, f13, f14, .int (nI nc), f16, .ref q_pinFirst, f18, f19, f20, .ref q_pinWidth, f22, .ref q_partFirst, f24, f25, f26, f27, f28, f29, f30, f31, f32, f33, f34, f35, .ref q_innerFirst, f37, f38, .ref q_innerWidth, f40, f41, f42, f43, .ref q_partIs, f45, f46, f47, f48, f49, f50, .ref q_gatesIn, .ref q_bitsIn, f53, f54, f55, f56, f57, f58, f59, f60, f61, f62, f63, f64, f65, f66, f67, f68, f69, f70])), (q_pinFirst, .inl (cI, 18, .inl (nF pf))), (q_pinWidth, .inl (cI, 200, .inl (nF pw_))), (q_innerFirst, .inl (cI, 18, .inl (nF jf))), (q_innerWidth, .inl (cI, 700, .inl (oF iw))), (q_partFirst, .inl (cI, 18, .inl (nF tf))), (q_partIs, .inl (cI, 400, .inl (oF ti))), (q_gatesIn, .inl (cL, 16, .inr (.inl (jF (va_up gn ch ((ca_c pf pw_ jf iw tf ti gn bn ch).1)))))), (q_bitsIn, .inl (cL, 16, .inr (.inl (jF (va_up bn ch ((ca_c pf pw_ jf iw tf ti gn bn ch).2))))))] := hD
          refine lv_iinc (v := nI (ch + 1)) (lv' := [(2, .int (nI (ch + 1))), (5, .long (lN ((ca_c pf pw_ jf iw tf ti gn bn ch).2))), (3, .long (lN ((ca_c pf pw_ jf iw tf ti gn bn ch).1))), (1, .int (nI rd)), (0, .ref qm)]) hx hb d_Model_countAll_258 hl (k := 2) rfl (nI_1 _) (by decide) rfl (fun ls hl => ?_)
          refine lv_goto (tgt := 12) hx hb d_Model_countAll_261 (by decide) ?_
          have e1 : ca_s pf pw_ jf iw tf ti ch (gn, bn) = (va_up gn ch ((ca_c pf pw_ jf iw tf ti gn bn ch).1), va_up bn ch ((ca_c pf pw_ jf iw tf ti gn bn ch).2)) := by unfold ca_s cap; rw [if_pos c_2, if_pos c_3]
          exact ih (ch + 1) (va_up gn ch ((ca_c pf pw_ jf iw tf ti gn bn ch).1)) (va_up bn ch ((ca_c pf pw_ jf iw tf ti gn bn ch).2)) H locs ls (by omega) (by omega) (by rw [← e1]; exact cle_s hle) (by rw [← hr, ca_r_u _ _ _ _ _ _ _ ch, if_pos (by omega), e1]) hP hD hS (lv_sub hl [0, 3, 4] rfl)
        · refine lv_ldc2 (v := 1000000) hx hb hown (hts _ k_1276) d_Model_countAll_249 ?_
          refine W.eq (g2 := F0 m 252 ls [.long (lN 1000000), .int (nI ch), .ref q_bitsIn]) rfl ?_
          refine lv_goto (tgt := 257) hx hb d_Model_countAll_252 (by decide) ?_
          refine nv_lastJ (x := 1000000) hx hb hK hP hD hS 8 2 rfl rfl (by omega) (by decide) d_Model_countAll_257 (fun H locs hP hD hS => ?_)
          have hP : va_P (dC, dI) cl [(qm, .inr (13, [f0, f1, f2, f3, f4, f5, f6, f7, f8, f9, f10, f11, f12, f13, f14, .int (nI nc), f16, .ref q_pinFirst, f18, f19, f20, .ref q_pinWidth, f22, .ref q_partFirst, f24, f25, f26, f27, f28, f29, f30, f31, f32, f33, f34, f35, .ref q_innerFirst, f37, f38, .ref q_innerWidth, f40, f41, f42, f43, .ref q_partIs, f45, f46, f47, f48, f49, f50, .ref q_gatesIn, .ref q_bitsIn, f53, f54, f55, f56, f57, f58, f59, f60, f61, f62, f63, f64, f65, f66, f67, f68, f69, f70])), (q_pinFirst, .inl (cI, 18, .inl (nF pf))), (q_pinWidth, .inl (cI, 200, .inl (nF pw_))), (q_innerFirst, .inl (cI, 18, .inl (nF jf))), (q_innerWidth, .inl (cI, 700, .inl (oF iw))), (q_partFirst, .inl (cI, 18, .inl (nF tf))), (q_partIs, .inl (cI, 400, .inl (oF ti))), (q_gatesIn, .inl (cL, 16, .inr (.inl (jF (va_up gn ch ((ca_c pf pw_ jf iw tf ti gn bn ch).1)))))), (q_bitsIn, .inl (cL, 16, .inr (.inl (jF (va_up bn ch 1000000)))))] H := hP
          have hD : va_D A [(qm, .inr (13, [f0, f1, f2, f3, f4, f5, f6, f7, f8, f9, f10, f11, f12, f13, f14, .int (nI nc), f16, .ref q_pinFirst, f18, f19, f20, .ref q_pinWidth, f22, .ref q_partFirst, f24, f25, f26, f27, f28, f29, f30, f31, f32, f33, f34, f35, .ref q_innerFirst, f37, f38, .ref q_innerWidth, f40, f41, f42, f43, .ref q_partIs, f45, f46, f47, f48, f49, f50, .ref q_gatesIn, .ref q_bitsIn, f53, f54, f55, f56, f57, f58, f59, f60, f61, f62, f63, f64, f65, f66, f67, f68, f69, f70])), (q_pinFirst, .inl (cI, 18, .inl (nF pf))), (q_pinWidth, .inl (cI, 200, .inl (nF pw_))), (q_innerFirst, .inl (cI, 18, .inl (nF jf))), (q_innerWidth, .inl (cI, 700, .inl (oF iw))), (q_partFirst, .inl (cI, 18, .inl (nF tf))), (q_partIs, .inl (cI, 400, .inl (oF ti))), (q_gatesIn, .inl (cL, 16, .inr (.inl (jF (va_up gn ch ((ca_c pf pw_ jf iw tf ti gn bn ch).1)))))), (q_bitsIn, .inl (cL, 16, .inr (.inl (jF (va_up bn ch 1000000)))))] := hD
          refine lv_iinc (v := nI (ch + 1)) (lv' := [(2, .int (nI (ch + 1))), (5, .long (lN ((ca_c pf pw_ jf iw tf ti gn bn ch).2))), (3, .long (lN ((ca_c pf pw_ jf iw tf ti gn bn ch).1))), (1, .int (nI rd)), (0, .ref qm)]) hx hb d_Model_countAll_258 hl (k := 2) rfl (nI_1 _) (by decide) rfl (fun ls hl => ?_)
          refine lv_goto (tgt := 12) hx hb d_Model_countAll_261 (by decide) ?_
          have e1 : ca_s pf pw_ jf iw tf ti ch (gn, bn) = (va_up gn ch ((ca_c pf pw_ jf iw tf ti gn bn ch).1), va_up bn ch 1000000) := by unfold ca_s cap; rw [if_pos c_2, if_neg (Nat.not_le_of_lt c_3)]
          exact ih (ch + 1) (va_up gn ch ((ca_c pf pw_ jf iw tf ti gn bn ch).1)) (va_up bn ch 1000000) H locs ls (by omega) (by omega) (by rw [← e1]; exact cle_s hle) (by rw [← hr, ca_r_u _ _ _ _ _ _ _ ch, if_pos (by omega), e1]) hP hD hS (lv_sub hl [0, 3, 4] rfl)
      · refine lv_ldc2 (v := 1000000) hx hb hown (hts _ k_1276) d_Model_countAll_227 ?_
        refine W.eq (g2 := F0 m 230 ls [.long (lN 1000000), .int (nI ch), .ref q_gatesIn]) rfl ?_
        refine lv_goto (tgt := 234) hx hb d_Model_countAll_230 (by decide) ?_
        refine nv_lastJ (x := 1000000) hx hb hK hP hD hS 7 2 rfl rfl (by omega) (by decide) d_Model_countAll_234 (fun H locs hP hD hS => ?_)
        have hP : va_P (dC, dI) cl [(qm, .inr (13, [f0, f1, f2, f3, f4, f5, f6, f7, f8, f9, f10, f11, f12, f13, f14, .int (nI nc), f16, .ref q_pinFirst, f18, f19, f20, .ref q_pinWidth, f22, .ref q_partFirst, f24, f25, f26, f27, f28, f29, f30, f31, f32, f33, f34, f35, .ref q_innerFirst, f37, f38, .ref q_innerWidth, f40, f41, f42, f43, .ref q_partIs, f45, f46, f47, f48, f49, f50, .ref q_gatesIn, .ref q_bitsIn, f53, f54, f55, f56, f57, f58, f59, f60, f61, f62, f63, f64, f65, f66, f67, f68, f69, f70])), (q_pinFirst, .inl (cI, 18, .inl (nF pf))), (q_pinWidth, .inl (cI, 200, .inl (nF pw_))), (q_innerFirst, .inl (cI, 18, .inl (nF jf))), (q_innerWidth, .inl (cI, 700, .inl (oF iw))), (q_partFirst, .inl (cI, 18, .inl (nF tf))), (q_partIs, .inl (cI, 400, .inl (oF ti))), (q_gatesIn, .inl (cL, 16, .inr (.inl (jF (va_up gn ch 1000000))))), (q_bitsIn, .inl (cL, 16, .inr (.inl (jF bn))))] H := hP
        have hD : va_D A [(qm, .inr (13, [f0, f1, f2, f3, f4, f5, f6, f7, f8, f9, f10, f11, f12, f13, f14, .int (nI nc), f16, .ref q_pinFirst, f18, f19, f20, .ref q_pinWidth, f22, .ref q_partFirst, f24, f25, f26, f27, f28, f29, f30, f31, f32, f33, f34, f35, .ref q_innerFirst, f37, f38, .ref q_innerWidth, f40, f41, f42, f43, .ref q_partIs, f45, f46, f47, f48, f49, f50, .ref q_gatesIn, .ref q_bitsIn, f53, f54, f55, f56, f57, f58, f59, f60, f61, f62, f63, f64, f65, f66, f67, f68, f69, f70])), (q_pinFirst, .inl (cI, 18, .inl (nF pf))), (q_pinWidth, .inl (cI, 200, .inl (nF pw_))), (q_innerFirst, .inl (cI, 18, .inl (nF jf))), (q_innerWidth, .inl (cI, 700, .inl (oF iw))), (q_partFirst, .inl (cI, 18, .inl (nF tf))), (q_partIs, .inl (cI, 400, .inl (oF ti))), (q_gatesIn, .inl (cL, 16, .inr (.inl (jF (va_up gn ch 1000000))))), (q_bitsIn, .inl (cL, 16, .inr (.inl (jF bn))))] := hD
        refine lv_aload_n hx hb d_Model_countAll_235 rfl (lv_at hl 4 rfl) ?_
        refine va_get (D := (dC, dI)) (ci := 13) (v := .ref q_bitsIn) (C := R_Model) (T := F_Model) (N := 71) hx hb hts i_Model hown hK hP 0 rfl rfl 52 (by decide) (hts _ k_926) (fun _ h9 => h9) rfl d_Model_countAll_236 ?_
        refine lv_iload_n hx hb d_Model_countAll_239 rfl (lv_at hl 2 rfl) ?_
        refine lv_lload hx hb d_Model_countAll_240 (lv_at hl 0 rfl) ?_
        refine lv_ldc2 (v := 1000000) hx hb hown (hts _ k_1276) d_Model_countAll_242 ?_
        refine W.eq (g2 := F0 m 245 ls [.long (lN 1000000), .long (lN ((ca_c pf pw_ jf iw tf ti gn bn ch).2)), .int (nI ch), .ref q_bitsIn]) rfl ?_
        refine W.lcmp hx hb d_Model_countAll_245 ?_
        refine nv_jif_le (tgt := 255) hx hb (by omega) (by omega) d_Model_countAll_246 (by decide) (fun c_4 => ?_) (fun c_4 => ?_)
        · refine lv_lload hx hb d_Model_countAll_255 (lv_at hl 0 rfl) ?_
          refine nv_lastJ (x := (ca_c pf pw_ jf iw tf ti gn bn ch).2) hx hb hK hP hD hS 8 2 rfl rfl (by omega) (by decide) d_Model_countAll_257 (fun H locs hP hD hS => ?_)
          have hP : va_P (dC, dI) cl [(qm, .inr (13, [f0, f1, f2, f3, f4, f5, f6, f7, f8, f9, f10, f11, f12, f13, f14, .int (nI nc), f16, .ref q_pinFirst, f18, f19, f20, .ref q_pinWidth, f22, .ref q_partFirst, f24, f25, f26, f27, f28, f29, f30, f31, f32, f33, f34, f35, .ref q_innerFirst, f37, f38, .ref q_innerWidth, f40, f41, f42, f43, .ref q_partIs, f45, f46, f47, f48, f49, f50, .ref q_gatesIn, .ref q_bitsIn, f53, f54, f55, f56, f57, f58, f59, f60, f61, f62, f63, f64, f65, f66, f67, f68, f69, f70])), (q_pinFirst, .inl (cI, 18, .inl (nF pf))), (q_pinWidth, .inl (cI, 200, .inl (nF pw_))), (q_innerFirst, .inl (cI, 18, .inl (nF jf))), (q_innerWidth, .inl (cI, 700, .inl (oF iw))), (q_partFirst, .inl (cI, 18, .inl (nF tf))), (q_partIs, .inl (cI, 400, .inl (oF ti))), (q_gatesIn, .inl (cL, 16, .inr (.inl (jF (va_up gn ch 1000000))))), (q_bitsIn, .inl (cL, 16, .inr (.inl (jF (va_up bn ch ((ca_c pf pw_ jf iw tf ti gn bn ch).2))))))] H := hP
          have hD : va_D A [(qm, .inr (13, [f0, f1, f2, f3, f4, f5, f6, f7, f8, f9, f10, f11, f12, f13, f14, .int (nI nc), f16, .ref q_pinFirst, f18, f19, f20, .ref q_pinWidth, f22, .ref q_partFirst, f24, f25, f26, f27, f28, f29, f30, f31, f32, f33, f34, f35, .ref q_innerFirst, f37, f38, .ref q_innerWidth, f40, f41, f42, f43, .ref q_partIs, f45, f46, f47, f48, f49, f50, .ref q_gatesIn, .ref q_bitsIn, f53, f54, f55, f56, f57, f58, f59, f60, f61, f62, f63, f64, f65, f66, f67, f68, f69, f70])), (q_pinFirst, .inl (cI, 18, .inl (nF pf))), (q_pinWidth, .inl (cI, 200, .inl (nF pw_))), (q_innerFirst, .inl (cI, 18, .inl (nF jf))), (q_innerWidth, .inl (cI, 700, .inl (oF iw))), (q_partFirst, .inl (cI, 18, .inl (nF tf))), (q_partIs, .inl (cI, 400, .inl (oF ti))), (q_gatesIn, .inl (cL, 16, .inr (.inl (jF (va_up gn ch 1000000))))), (q_bitsIn, .inl (cL, 16, .inr (.inl (jF (va_up bn ch ((ca_c pf pw_ jf iw tf ti gn bn ch).2))))))] := hD
          refine lv_iinc (v := nI (ch + 1)) (lv' := [(2, .int (nI (ch + 1))), (5, .long (lN ((ca_c pf pw_ jf iw tf ti gn bn ch).2))), (3, .long (lN ((ca_c pf pw_ jf iw tf ti gn bn ch).1))), (1, .int (nI rd)), (0, .ref qm)]) hx hb d_Model_countAll_258 hl (k := 2) rfl (nI_1 _) (by decide) rfl (fun ls hl => ?_)
          refine lv_goto (tgt := 12) hx hb d_Model_countAll_261 (by decide) ?_
          have e1 : ca_s pf pw_ jf iw tf ti ch (gn, bn) = (va_up gn ch 1000000, va_up bn ch ((ca_c pf pw_ jf iw tf ti gn bn ch).2)) := by unfold ca_s cap; rw [if_neg (Nat.not_le_of_lt c_2), if_pos c_4]
          exact ih (ch + 1) (va_up gn ch 1000000) (va_up bn ch ((ca_c pf pw_ jf iw tf ti gn bn ch).2)) H locs ls (by omega) (by omega) (by rw [← e1]; exact cle_s hle) (by rw [← hr, ca_r_u _ _ _ _ _ _ _ ch, if_pos (by omega), e1]) hP hD hS (lv_sub hl [0, 3, 4] rfl)
        · refine lv_ldc2 (v := 1000000) hx hb hown (hts _ k_1276) d_Model_countAll_249 ?_
          refine W.eq (g2 := F0 m 252 ls [.long (lN 1000000), .int (nI ch), .ref q_bitsIn]) rfl ?_
          refine lv_goto (tgt := 257) hx hb d_Model_countAll_252 (by decide) ?_
          refine nv_lastJ (x := 1000000) hx hb hK hP hD hS 8 2 rfl rfl (by omega) (by decide) d_Model_countAll_257 (fun H locs hP hD hS => ?_)
          have hP : va_P (dC, dI) cl [(qm, .inr (13, [f0, f1, f2, f3, f4, f5, f6, f7, f8, f9, f10, f11, f12, f13, f14, .int (nI nc), f16, .ref q_pinFirst, f18, f19, f20, .ref q_pinWidth, f22, .ref q_partFirst, f24, f25, f26, f27, f28, f29, f30, f31, f32, f33, f34, f35, .ref q_innerFirst, f37, f38, .ref q_innerWidth, f40, f41, f42, f43, .ref q_partIs, f45, f46, f47, f48, f49, f50, .ref q_gatesIn, .ref q_bitsIn, f53, f54, f55, f56, f57, f58, f59, f60, f61, f62, f63, f64, f65, f66, f67, f68, f69, f70])), (q_pinFirst, .inl (cI, 18, .inl (nF pf))), (q_pinWidth, .inl (cI, 200, .inl (nF pw_))), (q_innerFirst, .inl (cI, 18, .inl (nF jf))), (q_innerWidth, .inl (cI, 700, .inl (oF iw))), (q_partFirst, .inl (cI, 18, .inl (nF tf))), (q_partIs, .inl (cI, 400, .inl (oF ti))), (q_gatesIn, .inl (cL, 16, .inr (.inl (jF (va_up gn ch 1000000))))), (q_bitsIn, .inl (cL, 16, .inr (.inl (jF (va_up bn ch 1000000)))))] H := hP
          have hD : va_D A [(qm, .inr (13, [f0, f1, f2, f3, f4, f5, f6, f7, f8, f9, f10, f11, f12, f13, f14, .int (nI nc), f16, .ref q_pinFirst, f18, f19, f20, .ref q_pinWidth, f22, .ref q_partFirst, f24, f25, f26, f27, f28, f29, f30, f31, f32, f33, f34, f35, .ref q_innerFirst, f37, f38, .ref q_innerWidth, f40, f41, f42, f43, .ref q_partIs, f45, f46, f47, f48, f49, f50, .ref q_gatesIn, .ref q_bitsIn, f53, f54, f55, f56, f57, f58, f59, f60, f61, f62, f63, f64, f65, f66, f67, f68, f69, f70])), (q_pinFirst, .inl (cI, 18, .inl (nF pf))), (q_pinWidth, .inl (cI, 200, .inl (nF pw_))), (q_innerFirst, .inl (cI, 18, .inl (nF jf))), (q_innerWidth, .inl (cI, 700, .inl (oF iw))), (q_partFirst, .inl (cI, 18, .inl (nF tf))), (q_partIs, .inl (cI, 400, .inl (oF ti))), (q_gatesIn, .inl (cL, 16, .inr (.inl (jF (va_up gn ch 1000000))))), (q_bitsIn, .inl (cL, 16, .inr (.inl (jF (va_up bn ch 1000000)))))] := hD
          refine lv_iinc (v := nI (ch + 1)) (lv' := [(2, .int (nI (ch + 1))), (5, .long (lN ((ca_c pf pw_ jf iw tf ti gn bn ch).2))), (3, .long (lN ((ca_c pf pw_ jf iw tf ti gn bn ch).1))), (1, .int (nI rd)), (0, .ref qm)]) hx hb d_Model_countAll_258 hl (k := 2) rfl (nI_1 _) (by decide) rfl (fun ls hl => ?_)
          refine lv_goto (tgt := 12) hx hb d_Model_countAll_261 (by decide) ?_
          have e1 : ca_s pf pw_ jf iw tf ti ch (gn, bn) = (va_up gn ch 1000000, va_up bn ch 1000000) := by unfold ca_s cap; rw [if_neg (Nat.not_le_of_lt c_2), if_neg (Nat.not_le_of_lt c_4)]
          exact ih (ch + 1) (va_up gn ch 1000000) (va_up bn ch 1000000) H locs ls (by omega) (by omega) (by rw [← e1]; exact cle_s hle) (by rw [← hr, ca_r_u _ _ _ _ _ _ _ ch, if_pos (by omega), e1]) hP hD hS (lv_sub hl [0, 3, 4] rfl)
set_option maxHeartbeats 4000000 in
set_option maxRecDepth 100000 in
theorem lp5_Model_countAll {p : Program} {l : Launch} {e : Env} {s : State} {m : MethodId} {args : Array Value} {below : List Frame} {meth : Method} {c : Code} {Q : State → Prop} {A : Nat → Prop} {dC : Nat → ClassId} {dI : Nat → Nat → Nat} {cB cI cL cZ cC cO : ClassId} {qm q_pinFirst q_pinWidth q_innerFirst q_innerWidth q_partFirst q_partIs q_gatesIn q_bitsIn : Nat}{f0 f1 f2 f3 f4 f5 f6 f7 f8 f9 f10 f11 f12 f13 f14 f16 f18 f19 f20 f22 f24 f25 f26 f27 f28 f29 f30 f31 f32 f33 f34 f35 f37 f38 f40 f41 f42 f43 f45 f46 f47 f48 f49 f50 f53 f54 f55 f56 f57 f58 f59 f60 f61 f62 f63 f64 f65 f66 f67 f68 f69 f70 : Value} {nc : Nat} {pf pw_ jf tf : Nat → Nat} {iw ti : Nat → Option Nat} {F : (Nat → Nat) × (Nat → Nat)} (hnc : nc ≤ 8) (hpf : ∀ j, pf j ≤ 200) (hjf : ∀ j, jf j ≤ 700) (htf : ∀ j, tf j ≤ 400) (hpw : ∀ j, pw_ j ≤ 16) (hiw : ∀ y w, iw y = some w → w ≤ 16) (hti : ∀ y z, ti y = some z → z < 10) (hx : p.tables.exec = Jvm.exec) (hb : c.code = b_Model_countAll) (hml : c.maxLocals = 9) (hown : s.vm.findClass R_Model = some m.cls) (hts : ∀ w ∈ tb, w.before args s = true) (hA : ∀ q, s.heap.size ≤ q → A q) (hF : stF A s) (hK : va_K (dC, dI) cl [(cB, .byte), (cI, .int), (cL, .long), (cZ, .boolean), (cC, .char), (cO, .object "java/lang/Object")] s)
    (kx : ∀  (H : Heap) (locs : List Loc) (ls : Array Slot), va_P (dC, dI) cl [(qm, .inr (13, [f0, f1, f2, f3, f4, f5, f6, f7, f8, f9, f10, f11, f12, f13, f14, .int (nI nc), f16, .ref q_pinFirst, f18, f19, f20, .ref q_pinWidth, f22, .ref q_partFirst, f24, f25, f26, f27, f28, f29, f30, f31, f32, f33, f34, f35, .ref q_innerFirst, f37, f38, .ref q_innerWidth, f40, f41, f42, f43, .ref q_partIs, f45, f46, f47, f48, f49, f50, .ref q_gatesIn, .ref q_bitsIn, f53, f54, f55, f56, f57, f58, f59, f60, f61, f62, f63, f64, f65, f66, f67, f68, f69, f70])), (q_pinFirst, .inl (cI, 18, .inl (nF pf))), (q_pinWidth, .inl (cI, 200, .inl (nF pw_))), (q_innerFirst, .inl (cI, 18, .inl (nF jf))), (q_innerWidth, .inl (cI, 700, .inl (oF iw))), (q_partFirst, .inl (cI, 18, .inl (nF tf))), (q_partIs, .inl (cI, 400, .inl (oF ti))), (q_gatesIn, .inl (cL, 16, .inr (.inl (jF F.1)))), (q_bitsIn, .inl (cL, 16, .inr (.inl (jF F.2))))] H → va_D A [(qm, .inr (13, [f0, f1, f2, f3, f4, f5, f6, f7, f8, f9, f10, f11, f12, f13, f14, .int (nI nc), f16, .ref q_pinFirst, f18, f19, f20, .ref q_pinWidth, f22, .ref q_partFirst, f24, f25, f26, f27, f28, f29, f30, f31, f32, f33, f34, f35, .ref q_innerFirst, f37, f38, .ref q_innerWidth, f40, f41, f42, f43, .ref q_partIs, f45, f46, f47, f48, f49, f50, .ref q_gatesIn, .ref q_bitsIn, f53, f54, f55, f56, f57, f58, f59, f60, f61, f62, f63, f64, f65, f66, f67, f68, f69, f70])), (q_pinFirst, .inl (cI, 18, .inl (nF pf))), (q_pinWidth, .inl (cI, 200, .inl (nF pw_))), (q_innerFirst, .inl (cI, 18, .inl (nF jf))), (q_innerWidth, .inl (cI, 700, .inl (oF iw))), (q_partFirst, .inl (cI, 18, .inl (nF tf))), (q_partIs, .inl (cI, 400, .inl (oF ti))), (q_gatesIn, .inl (cL, 16, .inr (.inl (jF F.1)))), (q_bitsIn, .inl (cL, 16, .inr (.inl (jF F.2))))] → va_S A s.heap H locs → lv_has ls 9 [(0, .ref qm)] → W p l e (headSpec w_Model_countAll { frames := 0, cells := 0, slots := 0, locals := 0 }).room s m args below meth c H locs 0 0 Q (F0 m 270 ls [])) :
    ∀ (k : Nat) (rd : Nat) (gn bn : Nat → Nat) (H : Heap) (locs : List Loc) (ls : Array Slot), nc < rd + k → rd ≤ nc → cle (gn, bn) → ca_n pf pw_ jf iw tf ti nc (nc - rd) (gn, bn) = F → va_P (dC, dI) cl [(qm, .inr (13, [f0, f1, f2, f3, f4, f5, f6, f7, f8, f9, f10, f11, f12, f13, f14, .int (nI nc), f16, .ref q_pinFirst, f18, f19, f20, .ref q_pinWidth, f22, .ref q_partFirst, f24, f25, f26, f27, f28, f29, f30, f31, f32, f33, f34, f35, .ref q_innerFirst, f37, f38, .ref q_innerWidth, f40, f41, f42, f43, .ref q_partIs, f45, f46, f47, f48, f49, f50, .ref q_gatesIn, .ref q_bitsIn, f53, f54, f55, f56, f57, f58, f59, f60, f61, f62, f63, f64, f65, f66, f67, f68, f69, f70])), (q_pinFirst, .inl (cI, 18, .inl (nF pf))), (q_pinWidth, .inl (cI, 200, .inl (nF pw_))), (q_innerFirst, .inl (cI, 18, .inl (nF jf))), (q_innerWidth, .inl (cI, 700, .inl (oF iw))), (q_partFirst, .inl (cI, 18, .inl (nF tf))), (q_partIs, .inl (cI, 400, .inl (oF ti))), (q_gatesIn, .inl (cL, 16, .inr (.inl (jF gn)))), (q_bitsIn, .inl (cL, 16, .inr (.inl (jF bn))))] H → va_D A [(qm, .inr (13, [f0, f1, f2, f3, f4, f5, f6, f7, f8, f9, f10, f11, f12, f13, f14, .int (nI nc), f16, .ref q_pinFirst, f18, f19, f20, .ref q_pinWidth, f22, .ref q_partFirst, f24, f25, f26, f27, f28, f29, f30, f31, f32, f33, f34, f35, .ref q_innerFirst, f37, f38, .ref q_innerWidth, f40, f41, f42, f43, .ref q_partIs, f45, f46, f47, f48, f49, f50, .ref q_gatesIn, .ref q_bitsIn, f53, f54, f55, f56, f57, f58, f59, f60, f61, f62, f63, f64, f65, f66, f67, f68, f69, f70])), (q_pinFirst, .inl (cI, 18, .inl (nF pf))), (q_pinWidth, .inl (cI, 200, .inl (nF pw_))), (q_innerFirst, .inl (cI, 18, .inl (nF jf))), (q_innerWidth, .inl (cI, 700, .inl (oF iw))), (q_partFirst, .inl (cI, 18, .inl (nF tf))), (q_partIs, .inl (cI, 400, .inl (oF ti))), (q_gatesIn, .inl (cL, 16, .inr (.inl (jF gn)))), (q_bitsIn, .inl (cL, 16, .inr (.inl (jF bn))))] → va_S A s.heap H locs → lv_has ls 9 [(1, .int (nI rd)), (0, .ref qm)] → W p l e (headSpec w_Model_countAll { frames := 0, cells := 0, slots := 0, locals := 0 }).room s m args below meth c H locs 0 0 Q (F0 m 2 ls []) := by
  intro k
  induction k with
  | zero =>
    intro rd gn bn H locs ls hk hc hle hr hP hD hS hl
    exfalso; omega
  | succ k ih =>
    intro rd gn bn H locs ls hk hc hle hr hP hD hS hl
    refine lv_iload_n hx hb d_Model_countAll_2 rfl (lv_at hl 0 rfl) ?_
    refine lv_aload_n hx hb d_Model_countAll_3 rfl (lv_at hl 1 rfl) ?_
    refine va_get (D := (dC, dI)) (ci := 13) (v := .int (nI nc)) (C := R_Model) (T := F_Model) (N := 71) hx hb hts i_Model hown hK hP 0 rfl rfl 15 (by decide) (hts _ k_889) (fun _ h9 => h9) rfl d_Model_countAll_4 ?_
    refine nv_icmp_ge (tgt := 270) hx hb (by omega) (by omega) d_Model_countAll_7 (by decide) (fun c_1 => ?_) (fun c_1 => ?_)
    · have hri : (gn, bn) = F := by rw [← hr, ca_n_u, if_neg (by omega)]
      subst hri
      exact kx H locs ls hP hD hS (lv_sub hl [1] rfl)
    · refine lv_iconst (v := nI 0) hx hb d_Model_countAll_10 (by decide) ?_
      refine lv_istore_n (lv' := [(2, .int (nI 0)), (1, .int (nI rd)), (0, .ref qm)]) hx hb d_Model_countAll_11 rfl hl (by decide) rfl (fun ls hl => ?_)
      refine lp4_Model_countAll (F := ca_r pf pw_ jf iw tf ti nc 0 (gn, bn)) hnc hpf hjf htf hpw hiw hti hx hb hml hown hts hA hF hK (fun H locs ls hP hD hS hl => ?_) 9 0 gn bn _ _ ls (by omega) (by omega) hle rfl hP hD hS (lv_sub hl [0, 1, 2] rfl)
      refine lv_iinc (v := nI (rd + 1)) (lv' := [(1, .int (nI (rd + 1))), (0, .ref qm)]) hx hb d_Model_countAll_264 hl (k := 0) rfl (nI_1 _) (by decide) rfl (fun ls hl => ?_)
      refine lv_goto (tgt := 2) hx hb d_Model_countAll_267 (by decide) ?_
      exact ih (rd + 1) (ca_r pf pw_ jf iw tf ti nc 0 (gn, bn)).1 (ca_r pf pw_ jf iw tf ti nc 0 (gn, bn)).2 H locs ls (by omega) (by omega) (cle_r _ _ _ hle) (by rw [← hr, ca_n_u _ _ _ _ _ _ _ _ rd, if_pos (by omega)]) hP hD hS (lv_sub hl [0, 1] rfl)
set_option maxHeartbeats 4000000 in
set_option maxRecDepth 100000 in
/-- countAll() -/
theorem c_Model_countAll (l : Launch) (dC : Nat → ClassId) (dI : Nat → Nat → Nat) (cB cI cL cZ cC cO : ClassId) {qm q_pinFirst q_pinWidth q_innerFirst q_innerWidth q_partFirst q_partIs q_gatesIn q_bitsIn : Nat}{f0 f1 f2 f3 f4 f5 f6 f7 f8 f9 f10 f11 f12 f13 f14 f16 f18 f19 f20 f22 f24 f25 f26 f27 f28 f29 f30 f31 f32 f33 f34 f35 f37 f38 f40 f41 f42 f43 f45 f46 f47 f48 f49 f50 f53 f54 f55 f56 f57 f58 f59 f60 f61 f62 f63 f64 f65 f66 f67 f68 f69 f70 : Value} (nc : Nat) (pf pw_ jf tf : Nat → Nat) (iw ti : Nat → Option Nat) (gn bn : Nat → Nat) (sz : Nat) (hnc : nc ≤ 8) (hpf : ∀ j, pf j ≤ 200) (hjf : ∀ j, jf j ≤ 700) (htf : ∀ j, tf j ≤ 400) (hpw : ∀ j, pw_ j ≤ 16) (hiw : ∀ y w, iw y = some w → w ≤ 16) (hti : ∀ y z, ti y = some z → z < 10) (hle : cle (gn, bn)) : Met l y_Model_countAll w_Model_countAll ({ frames := 0, cells := 0, slots := 0, locals := 0 }) (va_Pc [.ref qm] (wB (dC, dI) cl [(cB, .byte), (cI, .int), (cL, .long), (cZ, .boolean), (cC, .char), (cO, .object "java/lang/Object")] sz [(qm, .inr (13, [f0, f1, f2, f3, f4, f5, f6, f7, f8, f9, f10, f11, f12, f13, f14, .int (nI nc), f16, .ref q_pinFirst, f18, f19, f20, .ref q_pinWidth, f22, .ref q_partFirst, f24, f25, f26, f27, f28, f29, f30, f31, f32, f33, f34, f35, .ref q_innerFirst, f37, f38, .ref q_innerWidth, f40, f41, f42, f43, .ref q_partIs, f45, f46, f47, f48, f49, f50, .ref q_gatesIn, .ref q_bitsIn, f53, f54, f55, f56, f57, f58, f59, f60, f61, f62, f63, f64, f65, f66, f67, f68, f69, f70])), (q_pinFirst, .inl (cI, 18, .inl (nF pf))), (q_pinWidth, .inl (cI, 200, .inl (nF pw_))), (q_innerFirst, .inl (cI, 18, .inl (nF jf))), (q_innerWidth, .inl (cI, 700, .inl (oF iw))), (q_partFirst, .inl (cI, 18, .inl (nF tf))), (q_partIs, .inl (cI, 400, .inl (oF ti))), (q_gatesIn, .inl (cL, 16, .inr (.inl (jF gn)))), (q_bitsIn, .inl (cL, 16, .inr (.inl (jF bn))))])) (va_Qv (fun (u : Unit) => True) (fun _ t => wA (dC, dI) cl [(cB, .byte), (cI, .int), (cL, .long), (cZ, .boolean), (cC, .char), (cO, .object "java/lang/Object")] (va_A [(qm, .inr (13, [f0, f1, f2, f3, f4, f5, f6, f7, f8, f9, f10, f11, f12, f13, f14, .int (nI nc), f16, .ref q_pinFirst, f18, f19, f20, .ref q_pinWidth, f22, .ref q_partFirst, f24, f25, f26, f27, f28, f29, f30, f31, f32, f33, f34, f35, .ref q_innerFirst, f37, f38, .ref q_innerWidth, f40, f41, f42, f43, .ref q_partIs, f45, f46, f47, f48, f49, f50, .ref q_gatesIn, .ref q_bitsIn, f53, f54, f55, f56, f57, f58, f59, f60, f61, f62, f63, f64, f65, f66, f67, f68, f69, f70])), (q_pinFirst, .inl (cI, 18, .inl (nF pf))), (q_pinWidth, .inl (cI, 200, .inl (nF pw_))), (q_innerFirst, .inl (cI, 18, .inl (nF jf))), (q_innerWidth, .inl (cI, 700, .inl (oF iw))), (q_partFirst, .inl (cI, 18, .inl (nF tf))), (q_partIs, .inl (cI, 400, .inl (oF ti))), (q_gatesIn, .inl (cL, 16, .inr (.inl (jF gn)))), (q_bitsIn, .inl (cL, 16, .inr (.inl (jF bn))))] sz) [(qm, .inr (13, [f0, f1, f2, f3, f4, f5, f6, f7, f8, f9, f10, f11, f12, f13, f14, .int (nI nc), f16, .ref q_pinFirst, f18, f19, f20, .ref q_pinWidth, f22, .ref q_partFirst, f24, f25, f26, f27, f28, f29, f30, f31, f32, f33, f34, f35, .ref q_innerFirst, f37, f38, .ref q_innerWidth, f40, f41, f42, f43, .ref q_partIs, f45, f46, f47, f48, f49, f50, .ref q_gatesIn, .ref q_bitsIn, f53, f54, f55, f56, f57, f58, f59, f60, f61, f62, f63, f64, f65, f66, f67, f68, f69, f70])), (q_pinFirst, .inl (cI, 18, .inl (nF pf))), (q_pinWidth, .inl (cI, 200, .inl (nF pw_))), (q_innerFirst, .inl (cI, 18, .inl (nF jf))), (q_innerWidth, .inl (cI, 700, .inl (oF iw))), (q_partFirst, .inl (cI, 18, .inl (nF tf))), (q_partIs, .inl (cI, 400, .inl (oF ti))), (q_gatesIn, .inl (cL, 16, .inr (.inl (jF ((ca_n pf pw_ jf iw tf ti nc nc (gn, bn)).1))))), (q_bitsIn, .inl (cL, 16, .inr (.inl (jF ((ca_n pf pw_ jf iw tf ti nc nc (gn, bn)).2)))))] t) (va_A [(qm, .inr (13, [f0, f1, f2, f3, f4, f5, f6, f7, f8, f9, f10, f11, f12, f13, f14, .int (nI nc), f16, .ref q_pinFirst, f18, f19, f20, .ref q_pinWidth, f22, .ref q_partFirst, f24, f25, f26, f27, f28, f29, f30, f31, f32, f33, f34, f35, .ref q_innerFirst, f37, f38, .ref q_innerWidth, f40, f41, f42, f43, .ref q_partIs, f45, f46, f47, f48, f49, f50, .ref q_gatesIn, .ref q_bitsIn, f53, f54, f55, f56, f57, f58, f59, f60, f61, f62, f63, f64, f65, f66, f67, f68, f69, f70])), (q_pinFirst, .inl (cI, 18, .inl (nF pf))), (q_pinWidth, .inl (cI, 200, .inl (nF pw_))), (q_innerFirst, .inl (cI, 18, .inl (nF jf))), (q_innerWidth, .inl (cI, 700, .inl (oF iw))), (q_partFirst, .inl (cI, 18, .inl (nF tf))), (q_partIs, .inl (cI, 400, .inl (oF ti))), (q_gatesIn, .inl (cL, 16, .inr (.inl (jF gn)))), (q_bitsIn, .inl (cL, 16, .inr (.inl (jF bn))))] sz)) 0 0 (va_A [(qm, .inr (13, [f0, f1, f2, f3, f4, f5, f6, f7, f8, f9, f10, f11, f12, f13, f14, .int (nI nc), f16, .ref q_pinFirst, f18, f19, f20, .ref q_pinWidth, f22, .ref q_partFirst, f24, f25, f26, f27, f28, f29, f30, f31, f32, f33, f34, f35, .ref q_innerFirst, f37, f38, .ref q_innerWidth, f40, f41, f42, f43, .ref q_partIs, f45, f46, f47, f48, f49, f50, .ref q_gatesIn, .ref q_bitsIn, f53, f54, f55, f56, f57, f58, f59, f60, f61, f62, f63, f64, f65, f66, f67, f68, f69, f70])), (q_pinFirst, .inl (cI, 18, .inl (nF pf))), (q_pinWidth, .inl (cI, 200, .inl (nF pw_))), (q_innerFirst, .inl (cI, 18, .inl (nF jf))), (q_innerWidth, .inl (cI, 700, .inl (oF iw))), (q_partFirst, .inl (cI, 18, .inl (nF tf))), (q_partIs, .inl (cI, 400, .inl (oF ti))), (q_gatesIn, .inl (cL, 16, .inr (.inl (jF gn)))), (q_bitsIn, .inl (cL, 16, .inr (.inl (jF bn))))] sz) := by
  refine Met.ofW (cc := b_Model_countAll) (maxL := 9) (ret := none) (by decide) rfl ?_
  intro p e s m args below meth c s₁ B hml hv
  obtain ⟨rfl, hsz, hP, hK, hD0, hF⟩ := hv
  have hx := B.exec
  have hb := B.bytes
  have hr := B.returns
  have hts := atoms_spec (ws := w_Model_countAll) B.pre
  have hts : ∀ w ∈ tb, w.before _ s = true := fun w h => hts w (List.mem_cons_of_mem _ h)
  have hown : s.vm.findClass R_Model = some m.cls := findClass_of_methodNamed B.named
  have hlocks := B.notSynchronized
  subst hsz
  have hD := hD0.self (sz := s.heap.size)
  generalize hAe : va_A [(qm, .inr (13, [f0, f1, f2, f3, f4, f5, f6, f7, f8, f9, f10, f11, f12, f13, f14, .int (nI nc), f16, .ref q_pinFirst, f18, f19, f20, .ref q_pinWidth, f22, .ref q_partFirst, f24, f25, f26, f27, f28, f29, f30, f31, f32, f33, f34, f35, .ref q_innerFirst, f37, f38, .ref q_innerWidth, f40, f41, f42, f43, .ref q_partIs, f45, f46, f47, f48, f49, f50, .ref q_gatesIn, .ref q_bitsIn, f53, f54, f55, f56, f57, f58, f59, f60, f61, f62, f63, f64, f65, f66, f67, f68, f69, f70])), (q_pinFirst, .inl (cI, 18, .inl (nF pf))), (q_pinWidth, .inl (cI, 200, .inl (nF pw_))), (q_innerFirst, .inl (cI, 18, .inl (nF jf))), (q_innerWidth, .inl (cI, 700, .inl (oF iw))), (q_partFirst, .inl (cI, 18, .inl (nF tf))), (q_partIs, .inl (cI, 400, .inl (oF ti))), (q_gatesIn, .inl (cL, 16, .inr (.inl (jF gn)))), (q_bitsIn, .inl (cL, 16, .inr (.inl (jF bn))))] s.heap.size = A at hD hF ⊢
  have hA : ∀ q : Nat, s.heap.size ≤ q → A q := fun q h => by rw [← hAe]; exact Or.inr h
  have hS : va_S A s.heap s.heap [] := va_S.rf
  have hP : va_P (dC, dI) cl [(qm, .inr (13, [f0, f1, f2, f3, f4, f5, f6, f7, f8, f9, f10, f11, f12, f13, f14, .int (nI nc), f16, .ref q_pinFirst, f18, f19, f20, .ref q_pinWidth, f22, .ref q_partFirst, f24, f25, f26, f27, f28, f29, f30, f31, f32, f33, f34, f35, .ref q_innerFirst, f37, f38, .ref q_innerWidth, f40, f41, f42, f43, .ref q_partIs, f45, f46, f47, f48, f49, f50, .ref q_gatesIn, .ref q_bitsIn, f53, f54, f55, f56, f57, f58, f59, f60, f61, f62, f63, f64, f65, f66, f67, f68, f69, f70])), (q_pinFirst, .inl (cI, 18, .inl (nF pf))), (q_pinWidth, .inl (cI, 200, .inl (nF pw_))), (q_innerFirst, .inl (cI, 18, .inl (nF jf))), (q_innerWidth, .inl (cI, 700, .inl (oF iw))), (q_partFirst, .inl (cI, 18, .inl (nF tf))), (q_partIs, .inl (cI, 400, .inl (oF ti))), (q_gatesIn, .inl (cL, 16, .inr (.inl (jF gn)))), (q_bitsIn, .inl (cL, 16, .inr (.inl (jF bn))))] s.heap := hP
  have hl := lv_entry ([.ref qm]) (n := 9) (Nat.le_of_ble_eq_true rfl)
  rw [lg_entry_eq]
  generalize (lg_sl ([.ref qm]) ++ List.replicate (9 - (lg_sl ([.ref qm])).length) Slot.unset).toArray = ls at hl ⊢
  have hl : lv_has ls 9 [(0, .ref qm)] := hl
  refine lv_iconst (v := nI 0) hx hb d_Model_countAll_0 (by decide) ?_
  refine lv_istore_n (lv' := [(1, .int (nI 0)), (0, .ref qm)]) hx hb d_Model_countAll_1 rfl hl (by decide) rfl (fun ls hl => ?_)
  refine lp5_Model_countAll (F := ca_n pf pw_ jf iw tf ti nc nc (gn, bn)) hnc hpf hjf htf hpw hiw hti hx hb hml hown hts hA hF hK (fun H locs ls hP hD hS hl => ?_) 9 0 gn bn _ _ ls (by omega) (by omega) hle rfl hP hD hS (lv_sub hl [0, 1] rfl)
  exact wr_v hx hb hr hlocks () trivial hK hP hD hS d_Model_countAll_270
