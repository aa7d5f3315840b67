/-! put keeps the texts alike -/
theorem sh8 (x : BitVec 64) {s : Nat} (hs : s ≤ 56) : (x.sshiftRight s).setWidth 8 = (x >>> s).setWidth 8 := by
  apply BitVec.eq_of_getLsbD_eq
  intro j hj
  have h1 : s + j < 64 := by omega
  have h2 : ¬ 64 ≤ j := by omega
  rw [BitVec.getLsbD_setWidth, BitVec.getLsbD_setWidth, BitVec.getLsbD_sshiftRight, BitVec.getLsbD_ushiftRight]
  simp [h1, h2]
theorem sh_a (v : Int64) {i : Nat} (hi : i < 8) : (v >>> ((nI (8 * i)).toInt64 &&& 63)).toBitVec = v.toBitVec.sshiftRight (8 * i) := by
  rcases (show i = 0 ∨ i = 1 ∨ i = 2 ∨ i = 3 ∨ i = 4 ∨ i = 5 ∨ i = 6 ∨ i = 7 by omega) with rfl | rfl | rfl | rfl | rfl | rfl | rfl | rfl
  all_goals exact congrArg v.toBitVec.sshiftRight (show ((((nI _).toInt64 &&& 63 : Int64).toBitVec).smod 64).toNat = _ by decide)
theorem sh_l (v : Int64) {i : Nat} (hi : i < 8) : (v.toUInt64 >>> ((nI (8 * i)).toInt64.toUInt64 &&& Int64.toUInt64 63)).toInt64.toBitVec = v.toBitVec >>> (8 * i) := by
  rcases (show i = 0 ∨ i = 1 ∨ i = 2 ∨ i = 3 ∨ i = 4 ∨ i = 5 ∨ i = 6 ∨ i = 7 by omega) with rfl | rfl | rfl | rfl | rfl | rfl | rfl | rfl
  all_goals exact congrArg v.toBitVec.ushiftRight (show (UInt64.mod ((nI _).toInt64.toUInt64 &&& Int64.toUInt64 63) 64).toBitVec.toNat = _ by decide)
theorem byte_rb (v : Int64) {i : Nat} (hi : i < 8) : (0 ≤ (m_byte v i).toInt ∧ (m_byte v i).toInt ≤ 255) ∧ ((tx_byte v i = m_byte v i ∧ (m_byte v i).toInt ≤ 127) ∨ ((tx_byte v i).toInt < 0 ∧ 127 < (m_byte v i).toInt)) := by
  obtain ⟨X, eX⟩ : ∃ X : Int64, X = (v.toUInt64 >>> ((nI (8 * i)).toInt64.toUInt64 &&& Int64.toUInt64 63)).toInt64 := ⟨_, rfl⟩
  obtain ⟨Y, eY⟩ : ∃ Y : Int64, Y = v >>> ((nI (8 * i)).toInt64 &&& 63) := ⟨_, rfl⟩
  have bX : X.toBitVec = v.toBitVec >>> (8 * i) := by rw [eX]; exact sh_l v hi
  have bY : Y.toBitVec = v.toBitVec.sshiftRight (8 * i) := by rw [eY]; exact sh_a v hi
  have e8 : X.toBitVec.toNat % 256 = Y.toBitVec.toNat % 256 := by
    have q := congrArg BitVec.toNat (sh8 v.toBitVec (s := 8 * i) (by omega))
    rw [BitVec.toNat_setWidth, BitVec.toNat_setWidth] at q
    rw [bX, bY]; exact q.symm
  have tX : (tx_byte v i).toInt = X.toInt.bmod 256 := by
    unfold tx_byte
    rw [vp_nar_byte, ← eX, Int8.toInt_toInt32, Int32.toInt_toInt8, Int8.toInt_toInt32, Int32.toInt_toInt8, Int64.toInt_toInt32, Int.bmod_bmod_of_dvd (show (2 : Nat) ^ 8 ∣ 2 ^ 8 from Nat.dvd_refl _), Int.bmod_bmod_of_dvd (show (2 : Nat) ^ 8 ∣ 2 ^ 32 by decide)]
  have mN : (m_byte v i).toBitVec.toNat = Y.toInt32.toBitVec.toNat % 256 := by
    unfold m_byte
    rw [← eY]
    have q := Nat.and_two_pow_sub_one_eq_mod Y.toInt32.toBitVec.toNat 8
    exact q
  have isX : X.toInt % 256 = (X.toBitVec.toNat : Int) % 256 := by
    show X.toBitVec.toInt % 256 = _
    rw [BitVec.toInt_eq_toNat_cond]
    split <;> omega
  have isY : Y.toInt % 256 = (Y.toBitVec.toNat : Int) % 256 := by
    show Y.toBitVec.toInt % 256 = _
    rw [BitVec.toInt_eq_toNat_cond]
    split <;> omega
  have isZ : (Y.toInt32.toBitVec.toNat : Int) % 256 = Y.toInt % 256 := by
    have c := BitVec.toInt_eq_toNat_cond Y.toInt32.toBitVec
    have z : Y.toInt32.toBitVec.toInt = Y.toInt.bmod (2 ^ 32) := Int64.toInt_toInt32 Y
    rw [c, Int.bmod_def] at z
    split at z <;> split at z <;> omega
  have mI : (m_byte v i).toInt = ((m_byte v i).toBitVec.toNat : Int) := BitVec.toInt_eq_toNat_of_lt (by rw [mN]; omega)
  have tX' : (tx_byte v i).toInt = if X.toInt % 256 < 128 then X.toInt % 256 else X.toInt % 256 - 256 := by
    rw [tX, Int.bmod_def]; rfl
  refine ⟨⟨by omega, by omega⟩, ?_⟩
  by_cases q : (m_byte v i).toInt ≤ 127
  · refine Or.inl ⟨Int32.toInt_inj.mp ?_, q⟩
    rw [tX']
    split <;> omega
  · refine Or.inr ⟨?_, by omega⟩
    rw [tX']
    split <;> omega
theorem app_rb (v : Int64) : ∀ j b f n, j ≤ 8 → rb b f n → rb (tx_app v j b n) (m_app v j f n) (n + j)
  | 0, b, f, n, _, h => h
  | j + 1, b, f, n, hj, h => by
    have r := app_rb v j (upd b n (tx_byte v j)) (upd f n (m_byte v j)) (n + 1) (by omega) (fun i hi => by
      by_cases e : i = n
      · have e1 : upd b n (tx_byte v j) i = tx_byte v j := if_pos e
        have e2 : upd f n (m_byte v j) i = m_byte v j := if_pos e
        rw [e1, e2]; exact byte_rb v (by omega)
      · have e1 : upd b n (tx_byte v j) i = b i := if_neg e
        have e2 : upd f n (m_byte v j) i = f i := if_neg e
        rw [e1, e2]; exact h i (by omega))
    rw [show n + (j + 1) = n + 1 + j by omega]; exact r
theorem put_cmp {b f : Nat → Int32} {n : Nat} (hn : n ≤ 2000) (h : rb b f n) (v : Int64) (x : Int32) : (m_put f n v x).2 = (tx_put b n v x).2 ∧ (tx_put b n v x).2 ≤ 2000 ∧ (tx_put b n v x).2 ≤ n + 8 ∧ rb (tx_put b n v x).1 (m_put f n v x).1 (tx_put b n v x).2 := by
  unfold m_put tx_put
  by_cases ok : tx_ok n x = true
  · rw [if_pos ok, if_pos ok]
    unfold tx_ok at ok
    rw [Bool.and_eq_true, Bool.and_eq_true] at ok
    obtain ⟨o1, o2, o3⟩ := ok
    have o1 : ¬ x < nI 1 := of_decide_eq_false (by simpa using o1)
    have o2 : ¬ nI 8 < x := of_decide_eq_false (by simpa using o2)
    obtain ⟨j, j1, j2, rfl⟩ := tx_small o1 o2
    have o3 := of_decide_eq_true o3
    rw [nI_clamp (by omega)]
    rw [Int32.le_iff_toInt_le, nI_add n j, nI_toInt (by omega), nI_toInt (by omega)] at o3
    exact ⟨rfl, by show n + j ≤ 2000; omega, by show n + j ≤ n + 8; omega, app_rb v j b f n j2 h⟩
  · rw [if_neg ok, if_neg ok]
    exact ⟨rfl, hn, by show n ≤ n + 8; omega, h⟩
theorem cwK_rw : rw_ cwK 29 0 kwl := ⟨rw_b (by decide +kernel), by decide +kernel, by decide, rw_b (by decide +kernel), by decide +kernel, by decide, rw_b (by decide +kernel), by decide +kernel, by decide, rw_b (by decide +kernel), by decide +kernel, by decide, rw_b (by decide +kernel), by decide +kernel, by decide, rw_b (by decide +kernel), by decide +kernel, by decide, rfl⟩
theorem bk_0 (k : Nat) : 0 < bk k := by
  unfold bk
  repeat' split
  all_goals decide
/-- the relation at the start -/
def U0 : UB := ((.null, .int (nI 0), .int (nI 0), .int (nI 0), .int (nI 0), .int (nI 2), .int (nI 0), .int (nI 0), .int (nI 0), .int (nI 0)), (fun _ => .inl 0, fun _ => false, fun _ => 0, fun _ => 0, fun _ => false, fun _ => 2), fun _ => 0, fun _ => 0)
def B0 : MB := (S0K, (fun _ => 2, fun _ => 2), fun _ => some 0, fun _ => 0, fun _ => 0, (fun _ => 0, fun _ => 0), (0, 0, 0))
theorem rel_0 {t0 qc na df : Nat} {L : List Nat} {G : PG} (hR : RB t0 qc na df G) (hL : gL L G) : REL t0 qc na df gpK 0 (fun _ => 0) (fun _ => 0, fun _ => 0, fun _ => 0, fun _ => 0, fun _ => 0) (-1) (fun _ => 0) U0 L G (fun _ => 0) (fun _ => 0) P0K B0 (fun _ => 0) none false := by
  refine ⟨⟨Nat.zero_le _, fun i hi => absurd hi (Nat.not_lt_zero _), rfl⟩, ⟨⟨⟨by decide, by decide⟩, fun _ => ⟨0, by decide, rfl⟩⟩, fun t => ⟨(show 0 < 8 by decide), fun e => absurd (show 0 = 2 from e) (by decide), (show 0 + 0 ≤ 2000 by decide)⟩, fun _ => rfl⟩, ⟨⟨⟨fun k j _ _ => bk_0 k, fun k j z e => by cases e; decide⟩, fun _ => (show 0 < 65536 by decide), fun _ => (show 0 < 65536 by decide), fun q i e => by cases e; decide, fun y w e => by cases e; decide, (show 0 ≤ 6 by decide), (show 0 < 2 ^ 31 by decide)⟩, (show 0 < 2 ^ 31 by decide)⟩, ⟨hR, hL, fun _ => (show 0 < 256 by decide), ⟨fun i v e => by cases e; decide, fun i v e => (by cases e), fun _ => (show 0 < 8000 by decide), fun _ => (show 0 < 8000 by decide), rfl, rfl, rfl⟩⟩, ⟨⟨fun _ => Nat.zero_le _, fun _ => Nat.zero_le _⟩, fun _ => (show 0 ≤ 1 by decide), fun _ => (show 2 < 8002 by decide), fun _ => (show 0 ≤ 300 by decide), fun _ => (show 0 ≤ 1 by decide), fun i z e => by cases e; decide, ⟨Nat.le_refl _, (show 0 ≤ 300 by decide)⟩, fun i hi => absurd hi (Nat.not_lt_zero _), (show 0 < 8 by decide), (show 0 ≤ 8 by decide)⟩, fun e => absurd e (by decide), fun _ => rfl⟩
