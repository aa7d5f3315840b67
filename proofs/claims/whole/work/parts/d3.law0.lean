/-! THE CLAIM OUT OF ONE WALK OF THE LAW'S BODY. Your part is whole_start (and what it stands on); all else here is the same for every law, but numbers. -/
def R_law : String := "ChipDeskLaw"
def lw_P (b : Addr) (xs : List Int32) (args : Array Value) (s : State) : Prop := args = #[.ref b] ∧ s.IntsAt b xs ∧ xs.length ≤ 2048 ∧ (Jvm.Cond.and given_1 narrow_1).before args s = true
def lw_Q (_ : Array Value) (s : State) (o : Outcome) (t : State) : Prop := o = .returned (some (.int 1)) ∧ Framed s o t [] 600000 7302250
def lw_Z (below : List Frame) (a : Array Value) (s : State) : State → Prop := fun t => ∃ o, t.status = .running ∧ Ended t below o ∧ lw_Q a s o t
/-- the law's own end, with 1 on the stack, nothing written that was there before, its room as the claim has it -/
theorem lw_ret {p : Program} {l : Launch} {e : Env} {s : State} {m : MethodId} {below : List Frame} {meth : Method} {c : Code} {b : Nat} (hx : p.tables.exec = Jvm.exec) (hb : c.code = code) (hr : meth.sig.returnType = ret) (hlocks : meth.locks = false) {pc : Nat} {H : Heap} {ls : Array Slot} (hdg : decode code pc = .ok (.ireturn, 1)) : W p l e room_1 s m #[Value.ref b] below meth c H [] 600000 7302250 (lw_Z below #[Value.ref b] s) (F0 m pc ls [.int 1]) := by
  intro T hT X
  obtain ⟨fs, hret, hrun, hended, hW, hframe⟩ := X.leave (v := some (.int 1)) (hlocks := hlocks) (fun h => by rw [hr] at h; cases h)
  have hmeth' : T.vm.method? m = some meth := X.method'
  refine ⟨T.setFrames fs, ?_, .returned (some (.int 1)), hrun, hended, rfl, ⟨_, rfl⟩, hW, hframe⟩
  jvm_step X.here [X.here.top, hx, hb, hdg, hmeth', hr, ret, narrow_b1]
  (try refine ⟨rfl, ?_⟩); (try refine ⟨rfl, ?_⟩)
  first | (intro acts; rw [hret _ acts rfl rfl rfl]) | rw [hret _ _ rfl rfl rfl]
  exact Steps.refl _
/-- what holds at the law's entry: the machine, the code, the tables' words (any of lw_tbl by 'hts w (by decide +kernel)'), the script of L ints xs at the cell b, what the Statement gives of the start (any of its parts by flat_of_before) -/
def lw_At (p : Program) (s : State) (m : MethodId) (meth : Method) (c : Code) (b L : Nat) (xs : Nat → Int32) : Prop :=
  p.tables.exec = Jvm.exec ∧ c.code = code ∧ meth.sig.returnType = ret ∧ c.maxLocals = 4 ∧ s.vm.findClass R_law = some m.cls ∧ (∀ w ∈ lw_tbl, w.before #[Value.ref b] s = true) ∧ va_X b L xs s s.heap ∧ b < s.heap.size ∧ meth.locks = false ∧ (Jvm.Cond.and given_1 narrow_1).before #[Value.ref b] s = true

theorem d_law_0 : decode code 0 = .ok (.new 7, 3) := by decide +kernel
theorem d_law_3 : decode code 3 = .ok (.dup, 1) := by decide +kernel
theorem d_law_4 : decode code 4 = .ok (.invokespecial 9, 3) := by decide +kernel
theorem d_law_7 : decode code 7 = .ok (.astore_n 1, 1) := by decide +kernel
theorem d_law_8 : decode code 8 = .ok (.new 10, 3) := by decide +kernel
theorem d_law_11 : decode code 11 = .ok (.dup, 1) := by decide +kernel
theorem d_law_12 : decode code 12 = .ok (.invokespecial 12, 3) := by decide +kernel
theorem d_law_15 : decode code 15 = .ok (.astore_n 2, 1) := by decide +kernel
theorem d_law_16 : decode code 16 = .ok (.iconst 0, 1) := by decide +kernel
theorem d_law_17 : decode code 17 = .ok (.istore_n 3, 1) := by decide +kernel
theorem d_law_18 : decode code 18 = .ok (.iload_n 3, 1) := by decide +kernel
theorem d_law_19 : decode code 19 = .ok (.aload_n 0, 1) := by decide +kernel
theorem d_law_20 : decode code 20 = .ok (.arraylength, 1) := by decide +kernel
theorem d_law_21 : decode code 21 = .ok (.iconst 4, 1) := by decide +kernel
theorem d_law_22 : decode code 22 = .ok (.isub, 1) := by decide +kernel
theorem d_law_23 : decode code 23 = .ok (.if_icmp .gt 240, 3) := by decide +kernel
theorem d_law_26 : decode code 26 = .ok (.aload_n 0, 1) := by decide +kernel
theorem d_law_27 : decode code 27 = .ok (.iload_n 3, 1) := by decide +kernel
theorem d_law_28 : decode code 28 = .ok (.iaload, 1) := by decide +kernel
theorem d_law_29 : decode code 29 = .ok (.bipush 7, 2) := by decide +kernel
theorem d_law_31 : decode code 31 = .ok (.iand, 1) := by decide +kernel
theorem d_law_32 : decode code 32 = .ok (.tableswitch 225 0 6 #[44, 107, 120, 133, 166, 189, 202], 44) := by decide +kernel
theorem d_law_76 : decode code 76 = .ok (.aload_n 1, 1) := by decide +kernel
theorem d_law_77 : decode code 77 = .ok (.aload_n 0, 1) := by decide +kernel
theorem d_law_78 : decode code 78 = .ok (.iload_n 3, 1) := by decide +kernel
theorem d_law_79 : decode code 79 = .ok (.iconst 1, 1) := by decide +kernel
theorem d_law_80 : decode code 80 = .ok (.iadd, 1) := by decide +kernel
theorem d_law_81 : decode code 81 = .ok (.iaload, 1) := by decide +kernel
theorem d_law_82 : decode code 82 = .ok (.i2l, 1) := by decide +kernel
theorem d_law_83 : decode code 83 = .ok (.bipush 32, 2) := by decide +kernel
theorem d_law_85 : decode code 85 = .ok (.lshl, 1) := by decide +kernel
theorem d_law_86 : decode code 86 = .ok (.aload_n 0, 1) := by decide +kernel
theorem d_law_87 : decode code 87 = .ok (.iload_n 3, 1) := by decide +kernel
theorem d_law_88 : decode code 88 = .ok (.iconst 2, 1) := by decide +kernel
theorem d_law_89 : decode code 89 = .ok (.iadd, 1) := by decide +kernel
theorem d_law_90 : decode code 90 = .ok (.iaload, 1) := by decide +kernel
theorem d_law_91 : decode code 91 = .ok (.i2l, 1) := by decide +kernel
theorem d_law_92 : decode code 92 = .ok (.ldc2_w 13, 3) := by decide +kernel
theorem d_law_95 : decode code 95 = .ok (.land, 1) := by decide +kernel
theorem d_law_96 : decode code 96 = .ok (.lor, 1) := by decide +kernel
theorem d_law_97 : decode code 97 = .ok (.aload_n 0, 1) := by decide +kernel
theorem d_law_98 : decode code 98 = .ok (.iload_n 3, 1) := by decide +kernel
theorem d_law_99 : decode code 99 = .ok (.iconst 3, 1) := by decide +kernel
theorem d_law_100 : decode code 100 = .ok (.iadd, 1) := by decide +kernel
theorem d_law_101 : decode code 101 = .ok (.iaload, 1) := by decide +kernel
theorem d_law_102 : decode code 102 = .ok (.invokevirtual 15, 3) := by decide +kernel
theorem d_law_105 : decode code 105 = .ok (.aload_n 2, 1) := by decide +kernel
theorem d_law_106 : decode code 106 = .ok (.aload_n 0, 1) := by decide +kernel
theorem d_law_107 : decode code 107 = .ok (.iload_n 3, 1) := by decide +kernel
theorem d_law_108 : decode code 108 = .ok (.iconst 1, 1) := by decide +kernel
theorem d_law_109 : decode code 109 = .ok (.iadd, 1) := by decide +kernel
theorem d_law_110 : decode code 110 = .ok (.iaload, 1) := by decide +kernel
theorem d_law_111 : decode code 111 = .ok (.i2l, 1) := by decide +kernel
theorem d_law_112 : decode code 112 = .ok (.bipush 32, 2) := by decide +kernel
theorem d_law_114 : decode code 114 = .ok (.lshl, 1) := by decide +kernel
theorem d_law_115 : decode code 115 = .ok (.aload_n 0, 1) := by decide +kernel
theorem d_law_116 : decode code 116 = .ok (.iload_n 3, 1) := by decide +kernel
theorem d_law_117 : decode code 117 = .ok (.iconst 2, 1) := by decide +kernel
theorem d_law_118 : decode code 118 = .ok (.iadd, 1) := by decide +kernel
theorem d_law_119 : decode code 119 = .ok (.iaload, 1) := by decide +kernel
theorem d_law_120 : decode code 120 = .ok (.i2l, 1) := by decide +kernel
theorem d_law_121 : decode code 121 = .ok (.ldc2_w 13, 3) := by decide +kernel
theorem d_law_124 : decode code 124 = .ok (.land, 1) := by decide +kernel
theorem d_law_125 : decode code 125 = .ok (.lor, 1) := by decide +kernel
theorem d_law_126 : decode code 126 = .ok (.aload_n 0, 1) := by decide +kernel
theorem d_law_127 : decode code 127 = .ok (.iload_n 3, 1) := by decide +kernel
theorem d_law_128 : decode code 128 = .ok (.iconst 3, 1) := by decide +kernel
theorem d_law_129 : decode code 129 = .ok (.iadd, 1) := by decide +kernel
theorem d_law_130 : decode code 130 = .ok (.iaload, 1) := by decide +kernel
theorem d_law_131 : decode code 131 = .ok (.invokevirtual 19, 3) := by decide +kernel
theorem d_law_134 : decode code 134 = .ok (.if_icmp .eq 123, 3) := by decide +kernel
theorem d_law_137 : decode code 137 = .ok (.iconst 0, 1) := by decide +kernel
theorem d_law_138 : decode code 138 = .ok (.ireturn, 1) := by decide +kernel
theorem d_law_139 : decode code 139 = .ok (.aload_n 1, 1) := by decide +kernel
theorem d_law_140 : decode code 140 = .ok (.invokevirtual 20, 3) := by decide +kernel
theorem d_law_143 : decode code 143 = .ok (.aload_n 2, 1) := by decide +kernel
theorem d_law_144 : decode code 144 = .ok (.invokevirtual 24, 3) := by decide +kernel
theorem d_law_147 : decode code 147 = .ok (.if_icmp .eq 110, 3) := by decide +kernel
theorem d_law_150 : decode code 150 = .ok (.iconst 0, 1) := by decide +kernel
theorem d_law_151 : decode code 151 = .ok (.ireturn, 1) := by decide +kernel
theorem d_law_152 : decode code 152 = .ok (.aload_n 1, 1) := by decide +kernel
theorem d_law_153 : decode code 153 = .ok (.invokevirtual 25, 3) := by decide +kernel
theorem d_law_156 : decode code 156 = .ok (.aload_n 2, 1) := by decide +kernel
theorem d_law_157 : decode code 157 = .ok (.invokevirtual 28, 3) := by decide +kernel
theorem d_law_160 : decode code 160 = .ok (.if_icmp .eq 97, 3) := by decide +kernel
theorem d_law_163 : decode code 163 = .ok (.iconst 0, 1) := by decide +kernel
theorem d_law_164 : decode code 164 = .ok (.ireturn, 1) := by decide +kernel
theorem d_law_165 : decode code 165 = .ok (.aload_n 1, 1) := by decide +kernel
theorem d_law_166 : decode code 166 = .ok (.aload_n 0, 1) := by decide +kernel
theorem d_law_167 : decode code 167 = .ok (.iload_n 3, 1) := by decide +kernel
theorem d_law_168 : decode code 168 = .ok (.iconst 1, 1) := by decide +kernel
theorem d_law_169 : decode code 169 = .ok (.iadd, 1) := by decide +kernel
theorem d_law_170 : decode code 170 = .ok (.iaload, 1) := by decide +kernel
theorem d_law_171 : decode code 171 = .ok (.aload_n 0, 1) := by decide +kernel
theorem d_law_172 : decode code 172 = .ok (.iload_n 3, 1) := by decide +kernel
theorem d_law_173 : decode code 173 = .ok (.iconst 2, 1) := by decide +kernel
theorem d_law_174 : decode code 174 = .ok (.iadd, 1) := by decide +kernel
theorem d_law_175 : decode code 175 = .ok (.iaload, 1) := by decide +kernel
theorem d_law_176 : decode code 176 = .ok (.invokevirtual 29, 3) := by decide +kernel
theorem d_law_179 : decode code 179 = .ok (.aload_n 2, 1) := by decide +kernel
theorem d_law_180 : decode code 180 = .ok (.aload_n 0, 1) := by decide +kernel
theorem d_law_181 : decode code 181 = .ok (.iload_n 3, 1) := by decide +kernel
theorem d_law_182 : decode code 182 = .ok (.iconst 1, 1) := by decide +kernel
theorem d_law_183 : decode code 183 = .ok (.iadd, 1) := by decide +kernel
theorem d_law_184 : decode code 184 = .ok (.iaload, 1) := by decide +kernel
theorem d_law_185 : decode code 185 = .ok (.aload_n 0, 1) := by decide +kernel
theorem d_law_186 : decode code 186 = .ok (.iload_n 3, 1) := by decide +kernel
theorem d_law_187 : decode code 187 = .ok (.iconst 2, 1) := by decide +kernel
theorem d_law_188 : decode code 188 = .ok (.iadd, 1) := by decide +kernel
theorem d_law_189 : decode code 189 = .ok (.iaload, 1) := by decide +kernel
theorem d_law_190 : decode code 190 = .ok (.invokevirtual 33, 3) := by decide +kernel
theorem d_law_193 : decode code 193 = .ok (.if_icmp .eq 64, 3) := by decide +kernel
theorem d_law_196 : decode code 196 = .ok (.iconst 0, 1) := by decide +kernel
theorem d_law_197 : decode code 197 = .ok (.ireturn, 1) := by decide +kernel
theorem d_law_198 : decode code 198 = .ok (.aload_n 1, 1) := by decide +kernel
theorem d_law_199 : decode code 199 = .ok (.aload_n 0, 1) := by decide +kernel
theorem d_law_200 : decode code 200 = .ok (.iload_n 3, 1) := by decide +kernel
theorem d_law_201 : decode code 201 = .ok (.iconst 1, 1) := by decide +kernel
theorem d_law_202 : decode code 202 = .ok (.iadd, 1) := by decide +kernel
theorem d_law_203 : decode code 203 = .ok (.iaload, 1) := by decide +kernel
theorem d_law_204 : decode code 204 = .ok (.invokevirtual 34, 3) := by decide +kernel
theorem d_law_207 : decode code 207 = .ok (.aload_n 2, 1) := by decide +kernel
theorem d_law_208 : decode code 208 = .ok (.aload_n 0, 1) := by decide +kernel
theorem d_law_209 : decode code 209 = .ok (.iload_n 3, 1) := by decide +kernel
theorem d_law_210 : decode code 210 = .ok (.iconst 1, 1) := by decide +kernel
theorem d_law_211 : decode code 211 = .ok (.iadd, 1) := by decide +kernel
theorem d_law_212 : decode code 212 = .ok (.iaload, 1) := by decide +kernel
theorem d_law_213 : decode code 213 = .ok (.invokevirtual 38, 3) := by decide +kernel
theorem d_law_216 : decode code 216 = .ok (.if_icmp .eq 41, 3) := by decide +kernel
theorem d_law_219 : decode code 219 = .ok (.iconst 0, 1) := by decide +kernel
theorem d_law_220 : decode code 220 = .ok (.ireturn, 1) := by decide +kernel
theorem d_law_221 : decode code 221 = .ok (.aload_n 1, 1) := by decide +kernel
theorem d_law_222 : decode code 222 = .ok (.invokevirtual 39, 3) := by decide +kernel
theorem d_law_225 : decode code 225 = .ok (.aload_n 2, 1) := by decide +kernel
theorem d_law_226 : decode code 226 = .ok (.invokevirtual 42, 3) := by decide +kernel
theorem d_law_229 : decode code 229 = .ok (.if_icmp .eq 28, 3) := by decide +kernel
theorem d_law_232 : decode code 232 = .ok (.iconst 0, 1) := by decide +kernel
theorem d_law_233 : decode code 233 = .ok (.ireturn, 1) := by decide +kernel
theorem d_law_234 : decode code 234 = .ok (.aload_n 1, 1) := by decide +kernel
theorem d_law_235 : decode code 235 = .ok (.aload_n 0, 1) := by decide +kernel
theorem d_law_236 : decode code 236 = .ok (.iload_n 3, 1) := by decide +kernel
theorem d_law_237 : decode code 237 = .ok (.iconst 1, 1) := by decide +kernel
theorem d_law_238 : decode code 238 = .ok (.iadd, 1) := by decide +kernel
theorem d_law_239 : decode code 239 = .ok (.iaload, 1) := by decide +kernel
theorem d_law_240 : decode code 240 = .ok (.invokevirtual 43, 3) := by decide +kernel
theorem d_law_243 : decode code 243 = .ok (.aload_n 2, 1) := by decide +kernel
theorem d_law_244 : decode code 244 = .ok (.aload_n 0, 1) := by decide +kernel
theorem d_law_245 : decode code 245 = .ok (.iload_n 3, 1) := by decide +kernel
theorem d_law_246 : decode code 246 = .ok (.iconst 1, 1) := by decide +kernel
theorem d_law_247 : decode code 247 = .ok (.iadd, 1) := by decide +kernel
theorem d_law_248 : decode code 248 = .ok (.iaload, 1) := by decide +kernel
theorem d_law_249 : decode code 249 = .ok (.invokevirtual 46, 3) := by decide +kernel
theorem d_law_252 : decode code 252 = .ok (.if_icmp .eq 5, 3) := by decide +kernel
theorem d_law_255 : decode code 255 = .ok (.iconst 0, 1) := by decide +kernel
theorem d_law_256 : decode code 256 = .ok (.ireturn, 1) := by decide +kernel
theorem d_law_257 : decode code 257 = .ok (.iinc 3 4, 3) := by decide +kernel
theorem d_law_260 : decode code 260 = .ok (.goto (-242), 3) := by decide +kernel
theorem d_law_263 : decode code 263 = .ok (.iconst 1, 1) := by decide +kernel
theorem d_law_264 : decode code 264 = .ok (.ireturn, 1) := by decide +kernel
theorem and7 (x : Int32) : ∃ z, z < 8 ∧ x &&& nI 7 = nI z := by
  refine ⟨x.toBitVec.toNat % 8, Nat.mod_lt _ (by decide), Int32.toBitVec_inj.mp (BitVec.eq_of_toNat_eq ?_)⟩
  have q : x.toBitVec.toNat &&& 7 = x.toBitVec.toNat % 8 := Nat.and_two_pow_sub_one_eq_mod x.toBitVec.toNat 3
  have e1 : (x &&& nI 7).toBitVec.toNat = x.toBitVec.toNat &&& 7 := rfl
  have e2 : (nI (x.toBitVec.toNat % 8)).toBitVec.toNat = (x.toBitVec.toNat % 8) % 2 ^ 32 := rfl
  rw [e1, e2, q]; omega
theorem sub4_s : ∀ N, N < 4 → ∀ i, i < 4 → nI N - nI 4 < nI i := by decide
theorem sub4 {N i : Nat} (hN : N ≤ 2048) (hi : i ≤ N) (h : ¬ nI N - nI 4 < nI i) : i + 4 ≤ N := by
  by_cases q : N < 4
  · exact absurd (sub4_s N q i (by omega)) h
  · obtain ⟨n, rfl⟩ : ∃ n, N = n + 4 := ⟨N - 4, by omega⟩
    rw [show nI (n + 4) - nI 4 = nI n by rw [← nI_add]; exact Int32.add_sub_cancel _ _, nI_ltI (by omega) (by omega)] at h
    omega
theorem bpin_f {pf : Nat → Nat} {po : Nat → Bool} {c0 : Nat} {ob : Bool} {x : Int32} : bpin false pf po c0 ob x = none := if_neg (fun q => absurd q.1 (by decide))
