theorem oI_inj {x y : Option Nat} (hx : ∀ n, x = some n → n < 2 ^ 31) (hy : ∀ n, y = some n → n < 2 ^ 31) : oI x = oI y ↔ x = y := by
  constructor
  · intro h
    cases x with
    | none => exact ((oI_m1 hy).mp h.symm).symm
    | some n =>
      cases y with
      | none => exact (oI_m1 hx).mp h
      | some k => rw [(nI_eq (hx n rfl) (hy k rfl)).mp h]
  · intro h; rw [h]
theorem oI_n {x : Option Nat} {y : Nat} (hx : ∀ n, x = some n → n < 2 ^ 31) (hy : y < 2 ^ 31) : oI x = nI y ↔ x = some y := oI_inj (y := some y) hx (fun n h => by cases h; exact hy)
theorem oI_0 {x : Option Nat} (hx : ∀ n, x = some n → n < 2 ^ 31) : oI x = 0 ↔ x = some 0 := by rw [← nI_0]; exact oI_n hx (by decide)
theorem oI_le {x : Option Nat} {y : Nat} (hx : ∀ n, x = some n → n < 2 ^ 31) (hy : y < 2 ^ 31) : oI x ≤ nI y ↔ ∀ n, x = some n → n ≤ y := by
  cases x with
  | none => exact ⟨fun _ n h => (by cases h), fun _ => by show (-1 : Int32) ≤ nI y; rw [Int32.le_iff_toInt_le, nI_toInt hy]; show (-1 : Int) ≤ (y : Int); omega⟩
  | some n => exact ⟨fun h k e => by cases e; exact (nI_leI (hx n rfl) hy).mp h, fun h => (nI_leI (hx n rfl) hy).mpr (h n rfl)⟩
theorem on_ex {x : Option Nat} {y : Nat} : ¬ (∀ n, x = some n → n ≤ y) ↔ ∃ n, x = some n ∧ y < n := by
  cases x with
  | none => exact ⟨fun h => absurd (fun n e => (by cases e)) h, fun ⟨n, e, _⟩ => (by cases e)⟩
  | some n => exact ⟨fun h => ⟨n, rfl, Nat.lt_of_not_le (fun q => h (fun k e => by cases e; exact q))⟩, fun ⟨k, e, q⟩ h => by cases e; exact absurd (h n rfl) (by omega)⟩
theorem nI_and (a b : Nat) : nI a &&& nI b = nI (a &&& b) := by
  apply Int32.toBitVec_inj.mp
  show BitVec.ofNat 32 a &&& BitVec.ofNat 32 b = BitVec.ofNat 32 (a &&& b)
  apply BitVec.eq_of_toNat_eq
  rw [BitVec.toNat_and, BitVec.toNat_ofNat, BitVec.toNat_ofNat, BitVec.toNat_ofNat, Nat.and_mod_two_pow]
theorem nI_or (a b : Nat) : nI a ||| nI b = nI (a ||| b) := by
  apply Int32.toBitVec_inj.mp
  show BitVec.ofNat 32 a ||| BitVec.ofNat 32 b = BitVec.ofNat 32 (a ||| b)
  apply BitVec.eq_of_toNat_eq
  rw [BitVec.toNat_or, BitVec.toNat_ofNat, BitVec.toNat_ofNat, BitVec.toNat_ofNat, Nat.or_mod_two_pow]
theorem set_all : ∀ n, n < 17 → ∀ i, i < 17 → ((nI 1 <<< (nI n &&& 31)) - nI 1) <<< (nI i &&& 31) = nI (m_set n i) := by decide +kernel
theorem m_set_lt {n i : Nat} (h : n + i ≤ 16) : m_set n i < 65536 := by
  unfold m_set
  have h1 : 2 ^ n * 2 ^ i ≤ 2 ^ 16 := by rw [← Nat.pow_add]; exact Nat.pow_le_pow_right (by decide) h
  have h2 : (2 ^ n - 1) * 2 ^ i = 2 ^ n * 2 ^ i - 2 ^ i := by rw [Nat.sub_mul, Nat.one_mul]
  have h3 : 0 < 2 ^ i := Nat.pow_pos (by decide)
  omega
section NV3
variable {p : Program} {l : Launch} {e : Env} {R : Room} {s : State} {m : MethodId} {args : Array Value} {below : List Frame} {meth : Method} {c : Code} {H : Heap} {locs : List Loc} {cells slots : Nat} {Q : State → Prop}
variable {cc : ByteArray} {pc : Nat} {ls : Array Slot} {rest : List Value}
theorem nv_onicmp_eq (hexec : p.tables.exec = Jvm.exec) (hb : c.code = cc) {x : Option Nat} {y : Nat} {off : Int} {tgt : Nat} (hx : ∀ n, x = some n → n < 2 ^ 31) (hy : y < 2 ^ 31) (hdg : decode cc pc = .ok (.if_icmp .eq off, 3)) (ht : (pc : Int) + off = (tgt : Int))
    (kt : x = some y → W p l e R s m args below meth c H locs cells slots Q (F0 m (tgt) ls (rest))) (kf : ¬ x = some y → W p l e R s m args below meth c H locs cells slots Q (F0 m (pc + 3) ls (rest))) : W p l e R s m args below meth c H locs cells slots Q (F0 m (pc) ls (.int (nI y) :: .int (oI x) :: rest)) := lv_icmp_eq hexec hb hdg ht (fun h => kt ((oI_n hx hy).mp h)) (fun h => kf (fun q => h ((oI_n hx hy).mpr q)))
theorem nv_onicmp_ne (hexec : p.tables.exec = Jvm.exec) (hb : c.code = cc) {x : Option Nat} {y : Nat} {off : Int} {tgt : Nat} (hx : ∀ n, x = some n → n < 2 ^ 31) (hy : y < 2 ^ 31) (hdg : decode cc pc = .ok (.if_icmp .ne off, 3)) (ht : (pc : Int) + off = (tgt : Int))
    (kt : ¬ x = some y → W p l e R s m args below meth c H locs cells slots Q (F0 m (tgt) ls (rest))) (kf : x = some y → W p l e R s m args below meth c H locs cells slots Q (F0 m (pc + 3) ls (rest))) : W p l e R s m args below meth c H locs cells slots Q (F0 m (pc) ls (.int (nI y) :: .int (oI x) :: rest)) := lv_icmp_ne hexec hb hdg ht (fun h => kt (fun q => h ((oI_n hx hy).mpr q))) (fun h => kf ((oI_n hx hy).mp h))
theorem nv_ooicmp_eq (hexec : p.tables.exec = Jvm.exec) (hb : c.code = cc) {x y : Option Nat} {off : Int} {tgt : Nat} (hx : ∀ n, x = some n → n < 2 ^ 31) (hy : ∀ n, y = some n → n < 2 ^ 31) (hdg : decode cc pc = .ok (.if_icmp .eq off, 3)) (ht : (pc : Int) + off = (tgt : Int))
    (kt : x = y → W p l e R s m args below meth c H locs cells slots Q (F0 m (tgt) ls (rest))) (kf : ¬ x = y → W p l e R s m args below meth c H locs cells slots Q (F0 m (pc + 3) ls (rest))) : W p l e R s m args below meth c H locs cells slots Q (F0 m (pc) ls (.int (oI y) :: .int (oI x) :: rest)) := lv_icmp_eq hexec hb hdg ht (fun h => kt ((oI_inj hx hy).mp h)) (fun h => kf (fun q => h ((oI_inj hx hy).mpr q)))
theorem nv_ooicmp_ne (hexec : p.tables.exec = Jvm.exec) (hb : c.code = cc) {x y : Option Nat} {off : Int} {tgt : Nat} (hx : ∀ n, x = some n → n < 2 ^ 31) (hy : ∀ n, y = some n → n < 2 ^ 31) (hdg : decode cc pc = .ok (.if_icmp .ne off, 3)) (ht : (pc : Int) + off = (tgt : Int))
    (kt : ¬ x = y → W p l e R s m args below meth c H locs cells slots Q (F0 m (tgt) ls (rest))) (kf : x = y → W p l e R s m args below meth c H locs cells slots Q (F0 m (pc + 3) ls (rest))) : W p l e R s m args below meth c H locs cells slots Q (F0 m (pc) ls (.int (oI y) :: .int (oI x) :: rest)) := lv_icmp_ne hexec hb hdg ht (fun h => kt (fun q => h ((oI_inj hx hy).mpr q))) (fun h => kf ((oI_inj hx hy).mp h))
theorem nv_onicmp_le (hexec : p.tables.exec = Jvm.exec) (hb : c.code = cc) {x : Option Nat} {y : Nat} {off : Int} {tgt : Nat} (hx : ∀ n, x = some n → n < 2 ^ 31) (hy : y < 2 ^ 31) (hdg : decode cc pc = .ok (.if_icmp .le off, 3)) (ht : (pc : Int) + off = (tgt : Int))
    (kt : (∀ n, x = some n → n ≤ y) → W p l e R s m args below meth c H locs cells slots Q (F0 m (tgt) ls (rest))) (kf : (∃ n, x = some n ∧ y < n) → W p l e R s m args below meth c H locs cells slots Q (F0 m (pc + 3) ls (rest))) : W p l e R s m args below meth c H locs cells slots Q (F0 m (pc) ls (.int (nI y) :: .int (oI x) :: rest)) := lv_icmp_le hexec hb hdg ht (fun h => kt ((oI_le hx hy).mp h)) (fun h => kf (on_ex.mp (fun q => h ((oI_le hx hy).mpr q))))
theorem nv_oif_eq (hexec : p.tables.exec = Jvm.exec) (hb : c.code = cc) {x : Option Nat} {off : Int} {tgt : Nat} (hx : ∀ n, x = some n → n < 2 ^ 31) (hdg : decode cc pc = .ok (.ifCond .eq off, 3)) (ht : (pc : Int) + off = (tgt : Int))
    (kt : x = some 0 → W p l e R s m args below meth c H locs cells slots Q (F0 m (tgt) ls (rest))) (kf : ¬ x = some 0 → W p l e R s m args below meth c H locs cells slots Q (F0 m (pc + 3) ls (rest))) : W p l e R s m args below meth c H locs cells slots Q (F0 m (pc) ls (.int (oI x) :: rest)) := lv_if_eq hexec hb hdg ht (fun h => kt ((oI_0 hx).mp h)) (fun h => kf (fun q => h ((oI_0 hx).mpr q)))
theorem nv_oif_ne (hexec : p.tables.exec = Jvm.exec) (hb : c.code = cc) {x : Option Nat} {off : Int} {tgt : Nat} (hx : ∀ n, x = some n → n < 2 ^ 31) (hdg : decode cc pc = .ok (.ifCond .ne off, 3)) (ht : (pc : Int) + off = (tgt : Int))
    (kt : ¬ x = some 0 → W p l e R s m args below meth c H locs cells slots Q (F0 m (tgt) ls (rest))) (kf : x = some 0 → W p l e R s m args below meth c H locs cells slots Q (F0 m (pc + 3) ls (rest))) : W p l e R s m args below meth c H locs cells slots Q (F0 m (pc) ls (.int (oI x) :: rest)) := lv_if_ne hexec hb hdg ht (fun h => kt (fun q => h ((oI_0 hx).mpr q))) (fun h => kf ((oI_0 hx).mp h))
theorem nv_oif_le (hexec : p.tables.exec = Jvm.exec) (hb : c.code = cc) {x : Option Nat} {off : Int} {tgt : Nat} (hx : ∀ n, x = some n → n < 2 ^ 31) (hdg : decode cc pc = .ok (.ifCond .le off, 3)) (ht : (pc : Int) + off = (tgt : Int))
    (kt : (∀ n, x = some n → n ≤ 0) → W p l e R s m args below meth c H locs cells slots Q (F0 m (tgt) ls (rest))) (kf : (∃ n, x = some n ∧ 0 < n) → W p l e R s m args below meth c H locs cells slots Q (F0 m (pc + 3) ls (rest))) : W p l e R s m args below meth c H locs cells slots Q (F0 m (pc) ls (.int (oI x) :: rest)) := lv_if_le hexec hb hdg ht (fun h => kt ((oI_le hx (by decide)).mp (by rw [nI_0]; exact h))) (fun h => kf (on_ex.mp (fun q => h (by have := (oI_le hx (y := 0) (by decide)).mpr q; rwa [nI_0] at this))))
theorem nv_iand (hexec : p.tables.exec = Jvm.exec) (hb : c.code = cc) {x y : Nat} (hdg : decode cc pc = .ok (.iand, 1)) (kk : W p l e R s m args below meth c H locs cells slots Q (F0 m (pc + 1) ls (.int (nI (x &&& y)) :: rest))) : W p l e R s m args below meth c H locs cells slots Q (F0 m (pc) ls (.int (nI y) :: .int (nI x) :: rest)) := lv_iand hexec hb hdg (by rw [nI_and]; exact kk)
theorem nv_ior (hexec : p.tables.exec = Jvm.exec) (hb : c.code = cc) {x y : Nat} (hdg : decode cc pc = .ok (.ior, 1)) (kk : W p l e R s m args below meth c H locs cells slots Q (F0 m (pc + 1) ls (.int (nI (x ||| y)) :: rest))) : W p l e R s m args below meth c H locs cells slots Q (F0 m (pc) ls (.int (nI y) :: .int (nI x) :: rest)) := lv_ior hexec hb hdg (by rw [nI_or]; exact kk)
end NV3
