/-- where a bit comes from: 0 for true, 1 for nowhere, n + 2 for bit n -/
def zI (v : Nat) : Int32 := if v = 0 then -2 else if v = 1 then -1 else nI (v - 2)
def zF (f : Nat → Nat) : Nat → Int32 := fun i => zI (f i)
theorem zI_n {v : Nat} (h : 2 ≤ v) : zI v = nI (v - 2) := by unfold zI; rw [if_neg (by omega), if_neg (by omega)]
theorem zI_2 (v : Nat) : zI (v + 2) = nI v := zI_n (by omega)
theorem zI_lt {v : Nat} (h : v < 2 ^ 31) : zI v < 0 ↔ v < 2 := by
  unfold zI
  split
  · rename_i q; subst q; exact ⟨fun _ => by decide, fun _ => by decide⟩
  · split
    · rename_i q; subst q; exact ⟨fun _ => by decide, fun _ => by decide⟩
    · exact ⟨fun q => absurd q (nI_pos (by omega)), fun q => by omega⟩
theorem zI_m1 {v : Nat} (h : v < 2 ^ 31) : zI v = -1 ↔ v = 1 := by
  by_cases q : 2 ≤ v
  · rw [zI_n q]
    exact ⟨fun e => absurd (show nI (v - 2) < 0 by rw [e]; decide) (nI_pos (by omega)), fun e => by omega⟩
  · rcases (show v = 0 ∨ v = 1 by omega) with e | e <;> subst e <;> decide
theorem zI_m2 {v : Nat} (h : v < 2 ^ 31) : zI v = -2 ↔ v = 0 := by
  by_cases q : 2 ≤ v
  · rw [zI_n q]
    exact ⟨fun e => absurd (show nI (v - 2) < 0 by rw [e]; decide) (nI_pos (by omega)), fun e => by omega⟩
  · rcases (show v = 0 ∨ v = 1 by omega) with e | e <;> subst e <;> decide
theorem up_c (ta : Nat → Nat) (i x : Nat) : upd (zF ta) i (zI x) = zF (va_up ta i x) := by
  funext j; unfold upd zF va_up; split <;> rfl
section NV4
variable {p : Program} {l : Launch} {e : Env} {R : Room} {s : State} {m : MethodId} {args : Array Value} {below : List Frame} {meth : Method} {c : Code} {H : Heap} {locs : List Loc} {cells slots : Nat} {Q : State → Prop}
variable {cc : ByteArray} {pc : Nat} {ls : Array Slot} {rest : List Value} {D : va_G} {cl : List vw_C} {tys : List (ClassId × FieldType)} {ws : va_W} {A : Nat → Prop} {H0 : Heap} {a : Nat}
theorem nv_cicmp_eq (hexec : p.tables.exec = Jvm.exec) (hb : c.code = cc) {x : Nat} {off : Int} {tgt : Nat} (hx : x < 2 ^ 31) (hdg : decode cc pc = .ok (.if_icmp .eq off, 3)) (ht : (pc : Int) + off = (tgt : Int))
    (kt : x = 1 → W p l e R s m args below meth c H locs cells slots Q (F0 m (tgt) ls (rest))) (kf : ¬ x = 1 → W p l e R s m args below meth c H locs cells slots Q (F0 m (pc + 3) ls (rest))) : W p l e R s m args below meth c H locs cells slots Q (F0 m (pc) ls (.int (-1) :: .int (zI x) :: rest)) := lv_icmp_eq hexec hb hdg ht (fun h => kt ((zI_m1 hx).mp h)) (fun h => kf (fun q => h ((zI_m1 hx).mpr q)))
theorem nv_cicmp_ne (hexec : p.tables.exec = Jvm.exec) (hb : c.code = cc) {x : Nat} {off : Int} {tgt : Nat} (hx : x < 2 ^ 31) (hdg : decode cc pc = .ok (.if_icmp .ne off, 3)) (ht : (pc : Int) + off = (tgt : Int))
    (kt : ¬ x = 1 → W p l e R s m args below meth c H locs cells slots Q (F0 m (tgt) ls (rest))) (kf : x = 1 → W p l e R s m args below meth c H locs cells slots Q (F0 m (pc + 3) ls (rest))) : W p l e R s m args below meth c H locs cells slots Q (F0 m (pc) ls (.int (-1) :: .int (zI x) :: rest)) := lv_icmp_ne hexec hb hdg ht (fun h => kt (fun q => h ((zI_m1 hx).mpr q))) (fun h => kf ((zI_m1 hx).mp h))
theorem nv_c2icmp_eq (hexec : p.tables.exec = Jvm.exec) (hb : c.code = cc) {x : Nat} {off : Int} {tgt : Nat} (hx : x < 2 ^ 31) (hdg : decode cc pc = .ok (.if_icmp .eq off, 3)) (ht : (pc : Int) + off = (tgt : Int))
    (kt : x = 0 → W p l e R s m args below meth c H locs cells slots Q (F0 m (tgt) ls (rest))) (kf : ¬ x = 0 → W p l e R s m args below meth c H locs cells slots Q (F0 m (pc + 3) ls (rest))) : W p l e R s m args below meth c H locs cells slots Q (F0 m (pc) ls (.int (-2) :: .int (zI x) :: rest)) := lv_icmp_eq hexec hb hdg ht (fun h => kt ((zI_m2 hx).mp h)) (fun h => kf (fun q => h ((zI_m2 hx).mpr q)))
theorem nv_c2icmp_ne (hexec : p.tables.exec = Jvm.exec) (hb : c.code = cc) {x : Nat} {off : Int} {tgt : Nat} (hx : x < 2 ^ 31) (hdg : decode cc pc = .ok (.if_icmp .ne off, 3)) (ht : (pc : Int) + off = (tgt : Int))
    (kt : ¬ x = 0 → W p l e R s m args below meth c H locs cells slots Q (F0 m (tgt) ls (rest))) (kf : x = 0 → W p l e R s m args below meth c H locs cells slots Q (F0 m (pc + 3) ls (rest))) : W p l e R s m args below meth c H locs cells slots Q (F0 m (pc) ls (.int (-2) :: .int (zI x) :: rest)) := lv_icmp_ne hexec hb hdg ht (fun h => kt (fun q => h ((zI_m2 hx).mpr q))) (fun h => kf ((zI_m2 hx).mp h))
theorem nv_cif_lt (hexec : p.tables.exec = Jvm.exec) (hb : c.code = cc) {x : Nat} {off : Int} {tgt : Nat} (hx : x < 2 ^ 31) (hdg : decode cc pc = .ok (.ifCond .lt off, 3)) (ht : (pc : Int) + off = (tgt : Int))
    (kt : x < 2 → W p l e R s m args below meth c H locs cells slots Q (F0 m (tgt) ls (rest))) (kf : 2 ≤ x → W p l e R s m args below meth c H locs cells slots Q (F0 m (pc + 3) ls (rest))) : W p l e R s m args below meth c H locs cells slots Q (F0 m (pc) ls (.int (zI x) :: rest)) := lv_if_lt hexec hb hdg ht (fun h => kt ((zI_lt hx).mp h)) (fun h => kf (Nat.le_of_not_lt (fun q => h ((zI_lt hx).mpr q))))
theorem nv_cif_ge (hexec : p.tables.exec = Jvm.exec) (hb : c.code = cc) {x : Nat} {off : Int} {tgt : Nat} (hx : x < 2 ^ 31) (hdg : decode cc pc = .ok (.ifCond .ge off, 3)) (ht : (pc : Int) + off = (tgt : Int))
    (kt : 2 ≤ x → W p l e R s m args below meth c H locs cells slots Q (F0 m (tgt) ls (rest))) (kf : x < 2 → W p l e R s m args below meth c H locs cells slots Q (F0 m (pc + 3) ls (rest))) : W p l e R s m args below meth c H locs cells slots Q (F0 m (pc) ls (.int (zI x) :: rest)) := lv_if_ge hexec hb hdg ht (fun h => kt (Nat.le_of_not_lt (fun q => absurd ((zI_lt hx).mpr q) (Int32.not_lt.mpr h)))) (fun h => kf ((zI_lt hx).mp (Int32.not_le.mp h)))
theorem nv_iastC (hexec : p.tables.exec = Jvm.exec) (hb : c.code = cc) (hK : va_K D cl tys s) (hP : va_P D cl ws H) (hD : va_D A ws) (hS : va_S A H0 H locs) (q0 t0 : Nat) {cA : ClassId} {n : Nat} {ta : Nat → Nat} (ha : ws[q0]? = some (a, .inl (cA, n, .inl (zF ta)))) (ht : tys[t0]? = some (cA, .int)) {i x : Nat} (hi : i < n) (hn : n < 2 ^ 31) (hdg : decode cc pc = .ok (.iastore, 1))
    (kk : ∀ (H1 : Heap) (locs1 : List Loc), va_P D cl (ws.set q0 (a, .inl (cA, n, .inl (zF (va_up ta i x))))) H1 → va_D A (ws.set q0 (a, .inl (cA, n, .inl (zF (va_up ta i x))))) → va_S A H0 H1 locs1 → W p l e R s m args below meth c H1 locs1 cells slots Q (F0 m (pc + 1) ls (rest))) : W p l e R s m args below meth c H locs cells slots Q (F0 m (pc) ls (.int (zI x) :: .int (nI i) :: .ref a :: rest)) := nv_iast hexec hb hK hP hD hS q0 t0 ha ht hi hn hdg (by rw [up_c]; exact kk)
end NV4
