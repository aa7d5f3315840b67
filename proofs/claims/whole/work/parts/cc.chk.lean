/-! The checks' context, out of a text that is parsed -/
section CTX
variable {ft tv gw gp : Nat → Int32} {nv : Nat → Nat} {T : Nat} {fk : Nat → Int32} {pp nn : Nat → Nat} {fh fl : Nat → Int64} {P Q : PS}
/-- what holds of the reference's rows at all times -/
def MI (Q : PS) : Prop := ((∀ k j, k ≠ 48 → k ≠ 49 → Q.2.2.1 k j < bk k) ∧ ∀ k j z, Q.2.2.2.1 k j = some z → z < 1002) ∧ (∀ j, Q.2.2.1 48 j < 65536) ∧ (∀ j, Q.2.2.1 49 j < 65536) ∧ s44 Q ∧ (∀ y w, Q.2.2.2.1 39 y = some w → w ≤ 16) ∧ Q.1 13 ≤ 6 ∧ Q.1 6 < 2 ^ 31
theorem wk_m89 (h : wl tv nv T P) (hq : MI Q) : wk tv nv T (m89 Q P) := by
  refine ⟨⟨fun k j a b => ?_, fun k j z e => ?_⟩, h.2⟩
  · show va_up (va_up P.2.2.1 48 (Q.2.2.1 48)) 49 (Q.2.2.1 49) k j < bk k
    rw [va_up_ne _ _ b, va_up_ne _ _ a]; exact h.1.1 k j
  · have e : va_up (va_up P.2.2.2.1 39 (Q.2.2.2.1 39)) 44 (Q.2.2.2.1 44) k j = some z := e
    by_cases q : k = 44
    · rw [q, va_up_self] at e; exact hq.1.2 44 j z e
    · rw [va_up_ne _ _ q] at e
      by_cases q2 : k = 39
      · rw [q2, va_up_self] at e; exact hq.1.2 39 j z e
      · rw [va_up_ne _ _ q2] at e; exact h.1.2 k j z e
theorem PT_m89 (h : PT ft tv nv P) : PT ft tv nv (m89 Q P) := h
theorem tke_m89 (h : tke ft tv nv T P.2.2.1 fk pp nn fh fl) : tke ft tv nv T (m89 Q P).2.2.1 fk pp nn fh fl := h
theorem toc_m89 {nc : Nat} {bd md : Nat → Nat} (h : toc nc bd md P) : toc nc bd md (m89 Q P) := h
theorem KC_m89 (ht : tke ft tv nv T P.2.2.1 fk pp nn fh fl) (hw : wl tv nv T P) (hp : PT ft tv nv P) (hq : MI Q) (hg : rw_ gw 9 0 gnl) (hgp : rw_ gp 11 0 gpl) : KC ft tv gw gp nv T fk pp nn fh fl (m89 Q P) := ⟨tke_m89 ht, wk_m89 hw hq, PT_m89 hp, hg, hgp⟩
theorem MI_m89 (h : wl tv nv T P) (hq : MI Q) (h6 : P.1 6 < 2 ^ 31) : MI (m89 Q P) := ⟨(wk_m89 h hq).1, hq.2.1, hq.2.2.1, hq.2.2.2.1, hq.2.2.2.2.1, h.2.1.1, h6⟩
theorem MI_chk (h : chk ft tv gw gp nv P) (hi : isb P) (h13 : P.1 13 ≤ 6) : MI P := ⟨⟨h.ab, h.ao⟩, h.m48, h.m49, hi, h.iw, h13, h.ng6⟩
theorem wbs_32 {a n : Nat} (h : wbs ft a n) {i : Nat} (hi : i < n) : ¬ ft (a + i) = nI 32 := fun e => by
  have q := h (a + i) (by omega) (by omega)
  rw [e] at q
  exact absurd q (by decide)
/-- all that the reference's checks ask of a text that is parsed -/
theorem chk_of (h : KC ft tv gw gp nv T fk pp nn fh fl (m89 Q P)) (hq : MI Q) (h6 : P.1 6 < 2 ^ 31) (g8 : gw 8 = nI 32) (g10 : gp 10 = nI 32) : chk ft tv gw gp nv (zs (m89 Q P) 5 0) ∧ isb (m89 Q P) := by
  obtain ⟨q1, q48, q49, q44, q39, -⟩ := hq
  have pt := h.2.2.1
  obtain ⟨c15, c18, c24, c37, c27⟩ := pt.ct
  have l12 := h.l12
  have lT := h.1.1
  have word : ∀ t, t ≤ T → (m89 Q P).2.2.1 7 t = 1 → nmt ft (zs (m89 Q P) 5 0) t := fun t ht k7 i hi => by
    obtain ⟨-, p⟩ := h.1.2.2.2 t ht
    rcases p with p | p | p | p | p | p | p | p
    · omega
    · exact wbs_32 p.2.2.1 hi
    all_goals omega
  obtain ⟨sc, sq_, sl, si, -⟩ := pt.si
  refine ⟨⟨h.2.1.1.1, h.2.1.1.2, q48, q49, h.2.1.2.2.2.2.2, c15, Nat.zero_le _, h6, g8, g10, fun j hj => ?_, fun j hj => ?_, fun j hj => ?_, fun j z hj e => ?_, fun j hj => h.p17 hj, fun j hj => h.p23 hj, fun j hj => h.p36 hj, fun j hj => h.p26 hj, q39, ?_, ?_, ?_, ?_, fun j => ?_, fun j hj => (sl.lk j hj).2.2.2.2.2.1, fun j hj k7 e => ?_, fun k r j hk hr1 hr2 hj1 hj2 k7 => ?_⟩, q44⟩
  · exact word ((m89 Q P).2.2.1 16 j) (by have := (sc.ck j hj).2; omega) (sc.ck j hj).1
  · exact word ((m89 Q P).2.2.1 25 j) (by have := (sq_.qk j hj).2; omega) (sq_.qk j hj).1
  · exact word ((m89 Q P).2.2.1 28 j) (by have := (sl.lk j hj).2.1; have := (sl.lk j hj).2.2.1; omega) (sl.lk j hj).1
  · obtain ⟨-, -, a, -⟩ := sc.pk j hj
    exact h.2.1.2.2.2.2.1 z (a z e).2.2.1
  · show (m89 Q P).1 24 ≤ 100; omega
  · show (m89 Q P).1 27 ≤ 400; omega
  · show (m89 Q P).1 37 ≤ 300; omega
  · show (m89 Q P).1 18 ≤ 100; omega
  · have := h.2.1.1.1 21 j (by decide) (by decide)
    have e : bk 21 = 17 := rfl
    show (m89 Q P).2.2.1 21 j ≤ 16
    omega
  · rcases (sl.lk j hj).2.2.2.2.2.2 with w | w
    · exact w.2 e
    · have k7 : (m89 Q P).2.2.1 7 ((m89 Q P).2.2.1 32 j) = 1 := k7
      have := w.1; omega
  · have hk : k < (m89 Q P).1 15 := hk
    have hr1 : (m89 Q P).2.2.1 23 k ≤ r := hr1
    have hr2 : r < (m89 Q P).2.2.1 23 (k + 1) := hr2
    have hj1 : (m89 Q P).2.2.1 26 r ≤ j := hj1
    have hj2 : j < (m89 Q P).2.2.1 26 (r + 1) := hj2
    have b := h.p23 hk
    have b26 := h.p26 (q := r) (by omega)
    have m := (sl.fm ((m89 Q P).2.2.1 23 k) r hr1 (by omega)).1
    refine si.ri k j ((m89 Q P).2.2.1 17 (k + 1)) ((m89 Q P).2.2.1 36 (k + 1)) hk (by omega) (fun _ => rfl) (fun e => by rw [e]; exact pt.pe) (fun _ => rfl) (fun e => by rw [e]; exact pt.2.2.2.2.2.2.1) ⟨by omega, by omega⟩ (fun _ e => ?_) k7
    have := (sl.fm (r + 1) ((m89 Q P).2.2.1 23 (k + 1)) (by omega) e).1
    omega
end CTX
