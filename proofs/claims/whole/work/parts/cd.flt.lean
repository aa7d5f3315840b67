/-! The first fault of both sides -/
section FLT
variable {ft tv gw gp : Nat → Int32} {nv : Nat → Nat} {T : Nat} {fk : Nat → Int32} {pp nn : Nat → Nat} {fh fl : Nat → Int64} {P Q : PS}
theorem kall_s (h : KC ft tv gw gp nv T fk pp nn fh fl P) : ∀ d c S, kp P S → c + d = P.1 15 → s44 S → kp P (k_all ft gw gp nv d c S).2 ∧ s44 (k_all ft gw gp nv d c S).2
  | 0, c, S, hk, _, hs => ⟨hk, hs⟩
  | d + 1, c, S, hk, hc, hs => by
    have e : k_all ft gw gp nv (d + 1) c S = match k1 ft gw nv c S with
        | some x => (some x, S)
        | none => if (kl_all ft gp c (fi_all ft gw gp c S)).1 = none then k_all ft gw gp nv d (c + 1) (kl_all ft gp c (fi_all ft gw gp c S)).2 else kl_all ft gp c (fi_all ft gw gp c S) := rfl
    rw [e]
    have ki : kp P (kl_all ft gp c (fi_all ft gw gp c S)).2 := kp_tr hk (kp_tr (kp_fi ft gw gp c S) (kp_tr (kp_rz 49 (Or.inr rfl) 200 0 _) (kp_kparts _ _ _)))
    have b23 := h.p23 (c := c) (by omega)
    have sf : s44 (fi_all ft gw gp c S) := by
      unfold fi_all
      rw [hk.2.1 23 (by decide) (by decide), hk.2.1 36 (by decide) (by decide)]
      refine s44_parts (c := c) h _ _ _ (kp_tr hk (kp_fi0 _ _ _)) (by omega) (fun q i e' => hs q i ?_)
      rw [(fi0_39 _ _ S).2.2] at e'; exact e'
    have s1 : s44 (kl_all ft gp c (fi_all ft gw gp c S)).2 := fun q i e' => by
      unfold kl_all at e'
      rw [klps_O, (rz_48 49 200 0 _).2.2] at e'
      exact sf q i e'
    rcases k1 ft gw nv c S with _ | x
    · show kp P (if (kl_all ft gp c (fi_all ft gw gp c S)).1 = none then k_all ft gw gp nv d (c + 1) (kl_all ft gp c (fi_all ft gw gp c S)).2 else kl_all ft gp c (fi_all ft gw gp c S)).2 ∧ s44 (if (kl_all ft gp c (fi_all ft gw gp c S)).1 = none then k_all ft gw gp nv d (c + 1) (kl_all ft gp c (fi_all ft gw gp c S)).2 else kl_all ft gp c (fi_all ft gw gp c S)).2
      split
      · exact kall_s h d (c + 1) _ ki (by omega) s1
      · exact ⟨ki, s1⟩
    · exact ⟨hk, hs⟩
/-- both sides find the same first fault, or none -/
theorem flt_cmp (h : KC ft tv gw gp nv T fk pp nn fh fl P) (h44 : s44 P) (hinc : tinc T (P.2.2.1 8)) (f : Nat → Nat) :
    (kck ft gw gp nv P f = none → (rdR (rdC ft gw gp nv P)).1 5 = 0 ∧ (k_all ft gw gp nv (P.1 15) 0 P).1 = none ∧ sbl (rdR (rdC ft gw gp nv P)) (k_all ft gw gp nv (P.1 15) 0 P).2) ∧ ∀ n t, kck ft gw gp nv P f = some (n, t) → 0 < n ∧ (rdR (rdC ft gw gp nv P)).1 5 = n ∧ (rdR (rdC ft gw gp nv P)).1 6 = P.2.2.1 8 t := by
  have h8 : ∀ t, P.2.2.1 8 t ≤ 2000 := fun t => by have := h.2.1.2.2.2.2.2 t; omega
  have tc : toc (P.1 15) (t_bd P) (t_md P) (zs P 5 0) := PT_toc h.2.2.1 hinc h.l12 h8
  obtain ⟨c1, c2⟩ := checks_cmp (ft := ft) (gw := gw) (gp := gp) (nv := nv) (nc := P.1 15) (P := zs P 5 0) (S := P) rfl rfl tc rfl
  have c1 : (k_all ft gw gp nv (P.1 15) 0 P).1 = none → (rdC ft gw gp nv P).2 = (k_all ft gw gp nv (P.1 15) 0 P).2.2 ∧ (rdC ft gw gp nv P).1 5 = 0 := c1
  have c2 : ∀ n t, (k_all ft gw gp nv (P.1 15) 0 P).1 = some (n, t) → 0 < n ∧ (rdC ft gw gp nv P).1 5 = n ∧ (rdC ft gw gp nv P).1 6 = P.2.2.1 8 t := c2
  obtain ⟨ks, ks4⟩ := kall_s h (P.1 15) 0 P (kp_rfl P) (Nat.zero_add _) h44
  have e15 : (rdC ft gw gp nv P).1 15 = P.1 15 := by unfold rdC; rw [p2_15, cpall_k (by decide) (by decide)]; rfl
  have s15 : P.1 15 ≤ 8 := h.2.2.1.2.2.2.1.1
  by_cases kn : (k_all ft gw gp nv (P.1 15) 0 P).1 = none
  · obtain ⟨d1, d2⟩ := c1 kn
    have k8 := ks.2.1 8 (by decide) (by decide)
    have k16 := ks.2.1 16 (by decide) (by decide)
    have k23 := ks.2.1 23 (by decide) (by decide)
    have er : rms (rdC ft gw gp nv P) f = clb (P.1 15) (P.1 15) 0 (dcs ((k_all ft gw gp nv (P.1 15) 0 P).2.2.2.2.1 44) (P.2.2.1 23) (P.1 15) 0 f) := by
      unfold rms; rw [e15, d1, k23]
    obtain ⟨r1, r2⟩ := ring_cmp (S := rdC ft gw gp nv P) (f := f) (by rw [e15]; exact s15) (by rw [d1]; exact ks4) d2 (fun a b hab hb => by
      rw [e15] at hb
      rw [d1, k8, k16]
      have x1 := h.2.2.1.si.1.cm a b hab hb
      have x2 := (h.2.2.1.si.1.ck b hb).2
      have := h.l12
      exact hinc _ _ x1 (by omega))
    rw [er, e15] at r1 r2
    have eR : rdR (rdC ft gw gp nv P) = rg_all (rdC ft gw gp nv P) := by unfold rdR; rw [if_pos d2]
    have ek : kck ft gw gp nv P f = (fsc (clb (P.1 15) (P.1 15) 0 (dcs ((k_all ft gw gp nv (P.1 15) 0 P).2.2.2.2.1 44) (P.2.2.1 23) (P.1 15) 0 f)) (P.1 15) 0).map (fun c => (6, P.2.2.1 16 c)) := by unfold kck; rw [if_pos kn]
    rw [ek, eR]
    rcases ef : fsc (clb (P.1 15) (P.1 15) 0 (dcs ((k_all ft gw gp nv (P.1 15) 0 P).2.2.2.2.1 44) (P.2.2.1 23) (P.1 15) 0 f)) (P.1 15) 0 with _ | z
    · refine ⟨fun _ => ⟨r1 ef, kn, ?_⟩, fun n t e => by cases e⟩
      obtain ⟨-, -, a3, a4, a5⟩ := rk_all (rdC ft gw gp nv P)
      exact ⟨by rw [a3, d1], by rw [a4, d1], by rw [a5 19 (by decide), d1]⟩
    · obtain ⟨-, z2, z3⟩ := r2 z ef
      refine ⟨fun e => (by cases e), fun n t e => ?_⟩
      cases e
      refine ⟨by decide, z2, ?_⟩
      rw [z3, d1, k8, k16]
  · have ek : kck ft gw gp nv P f = (k_all ft gw gp nv (P.1 15) 0 P).1 := by unfold kck; rw [if_neg kn]
    rw [ek]
    refine ⟨fun e => absurd e kn, fun n t e => ?_⟩
    obtain ⟨x1, x2, x3⟩ := c2 n t e
    have eR : rdR (rdC ft gw gp nv P) = rdC ft gw gp nv P := by unfold rdR; rw [if_neg (by omega)]
    rw [eR]
    exact ⟨x1, x2, x3⟩
/-- places increase along a text's tokens -/
theorem scan_tinc {b : Nat → Int32} {n : Nat} {cw : Nat → Int32} {RR : Nat} (h : rb b ft n) (hn : n ≤ 2000) (hc : rw_ cw RR 0 kwl) (hR : 6 ≤ RR) {A : Nat → Nat → Nat} {M : TS} (eM : M = m_tkz ft n cw RR 1001 (m_skip ft n n 0) (0, A 7, A 8, A 9, tv)) (hT : M.1 = T + 1) : tinc T M.2.2.1 := fun u v a d => by
  have := scan_inc h hn hc hR 1001 0 (0, A 7, A 8, A 9, tv) rfl (by decide) (Nat.zero_le _) (fun u v _ z => absurd z (Nat.not_lt_zero _)) (fun u z => absurd z (Nat.not_lt_zero _)) u v a (by rw [← eM, hT]; omega)
  rw [← eM] at this; exact this
end FLT
