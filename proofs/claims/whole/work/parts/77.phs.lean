/-! the phases tell the same as the seconds -/
theorem ER_low {D : Nat → Int} {c u : Int} (h0 : 0 ≤ u) (h : u < c) : ER D c u = D u.toNat := by
  unfold ER
  rw [Int.emod_eq_of_lt h0 h]
theorem ER_mod {D : Nat → Int} {c p u : Int} (h : PE (ER D c) p) (hp : 0 < p) (hu : 0 ≤ u) : ER D c (u % p) = ER D c u := by
  have h1 := h.mulN (u % p) (u / p).toNat
  have h2 : 0 ≤ u / p := Int.ediv_nonneg hu (by omega)
  rw [← nt h2, Int.emod_add_mul_ediv] at h1
  exact h1.symm
theorem PHS_row {D D2 : Nat → Int} {c c2 : Int} (hc : c = 2 ∨ c = 4 ∨ c = 6) (hc2 : c2 = 2 ∨ c2 = 4 ∨ c2 = 6) : PHS D D2 (CYC D c) (CYC D2 c2) ↔ ∃ t : Nat, t % 2 = 0 ∧ ∀ k : Nat, ER D c ((k : Int) + t) = ER D2 c2 k := by
  obtain ⟨⟨a1, a2, a3⟩, a4, a5⟩ := CYC_least (D := D) hc
  obtain ⟨⟨b1, b2, b3⟩, b4, b5⟩ := CYC_least (D := D2) hc2
  constructor
  · rintro ⟨e, t, t1, t2, t3, t4⟩
    refine ⟨t.toNat, by omega, fun k => ?_⟩
    rw [← nt t1]
    have z0 := Int.emod_nonneg (k : Int) (show CYC D c ≠ 0 by omega)
    have z1 := Int.emod_lt_of_pos (k : Int) (show 0 < CYC D c by omega)
    have z := t4 ((k : Int) % CYC D c) z0 z1
    dsimp only at z
    have y0 := Int.emod_nonneg ((k : Int) + t) (show CYC D c ≠ 0 by omega)
    have y1 := Int.emod_lt_of_pos ((k : Int) + t) (show 0 < CYC D c by omega)
    rw [← tn_mod ⟨z0, z1⟩ ⟨t1, t2⟩, Int.emod_add_emod] at z
    rw [← ER_mod a4 (by omega) (show 0 ≤ (k : Int) + t by omega), ER_low y0 (by omega), z, ← ER_mod b4 (by omega) (show 0 ≤ (k : Int) by omega), ← e, ER_low z0 (by omega)]
  · rintro ⟨t, t1, t2⟩
    have key : ∀ u : Int, ER D c (u + t) = ER D2 c2 u := fun u => by
      have hne : c * c2 ≠ 0 := by
        rcases hc with rfl | rfl | rfl <;> rcases hc2 with rfl | rfl | rfl <;> decide
      have z := t2 (u % (c * c2)).toNat
      rw [← nt (Int.emod_nonneg u hne)] at z
      unfold ER at z ⊢
      rw [Int.emod_emod_of_dvd _ (Int.dvd_mul_left c c2), ← Int.emod_add_emod, Int.emod_emod_of_dvd _ (Int.dvd_mul_right c c2), Int.emod_add_emod] at z
      exact z
    have p2 : PE (ER D2 c2) (CYC D c) := fun u => by
      rw [← key (u + CYC D c), ← key u, show u + CYC D c + t = u + t + CYC D c by omega, a4 (u + t)]
    have p1 : PE (ER D c) (CYC D2 c2) := fun u => by
      have z1 := key (u - t + CYC D2 c2)
      have z2 := key (u - t)
      rw [show u - t + CYC D2 c2 + t = u + CYC D2 c2 by omega, b4 (u - t)] at z1
      rw [show u - t + t = u by omega] at z2
      rw [z1, z2]
    have d1 := Int.le_of_dvd (by omega) (Int.dvd_of_emod_eq_zero (a5 _ (by omega) b3 p1))
    have d2 := Int.le_of_dvd (by omega) (Int.dvd_of_emod_eq_zero (b5 _ (by omega) a3 p2))
    have e : CYC D c = CYC D2 c2 := by omega
    have y0 := Int.emod_nonneg (t : Int) (show CYC D c ≠ 0 by omega)
    have y1 := Int.emod_lt_of_pos (t : Int) (show 0 < CYC D c by omega)
    have y2 : (t : Int) % CYC D c % 2 = 0 := by
      rw [Int.emod_emod_of_dvd _ (Int.dvd_of_emod_eq_zero a3)]
      omega
    refine ⟨e, (t : Int) % CYC D c, y0, y1, y2, fun i i1 i2 => ?_⟩
    dsimp only
    rw [← tn_mod ⟨i1, i2⟩ ⟨y0, y1⟩, Int.add_emod_emod]
    have x0 := Int.emod_nonneg (i + t) (show CYC D c ≠ 0 by omega)
    have x1 := Int.emod_lt_of_pos (i + t) (show 0 < CYC D c by omega)
    rw [← ER_low (D := D) (c := c) x0 (by omega), ER_mod a4 (by omega) (by omega), key i, ER_low i1 (by omega)]
theorem ER_ph {G : Nat → Nat → Int} {q : Int} {c : Nat} (hc : 0 < c) (u : Int) : ER (DG G q) c u = ph G q (u % c) := by
  unfold ER DG
  rw [← nt (Int.emod_nonneg u (by omega))]
theorem PH1_SC1 {G : Nat → Nat → Int} {q q2 : Int} (h : PQ G q) (h2 : PQ G q2) : PH1 G q q2 ↔ SC1 G q q2 := by
  have hp := h.per
  have hp2 := h2.per
  obtain ⟨h3, h4, h5⟩ := h
  obtain ⟨k3, k4, k5⟩ := h2
  have e1 : LQ G q = lt (ph G q) (cq G q) (sf (ph G q) (cq G q) 0) := by unfold LQ; rw [h5]
  have e2 : LQ G q2 = lt (ph G q2) (cq G q2) (sf (ph G q2) (cq G q2) 0) := by unfold LQ; rw [k5]
  unfold PH1 SC1
  rw [PHS_row (by omega) (by omega)]
  constructor
  · rintro ⟨t, t1, t2⟩
    have z := turn_lit (d := ph G q) (d2 := ph G q2) (c := cq G q) (c2 := cq G q2) (t := t) (by omega) (by omega) (by omega) (by omega) (fun k a b => (h4 k a b).1) (fun k a b => (k4 k a b).1) t1 (fun k => by
      have w := t2 k
      rw [ER_ph (by omega), ER_ph (by omega)] at w
      rw [Int.natCast_add]
      exact w)
    rw [← e1, ← e2] at z
    have s0 := Int.emod_nonneg (ES (ph G q) (cq G q) t) (show G 3 q.toNat ≠ 0 by omega)
    refine ⟨ES (ph G q) (cq G q) t % G 3 q.toNat, s0, Int.emod_lt_of_pos _ (by omega), fun u a b => ?_⟩
    dsimp only
    rw [← z u a, ← LQ_md (u + ES (ph G q) (cq G q) t), ← LQ_md (u + ES (ph G q) (cq G q) t % G 3 q.toNat), Int.add_emod_emod]
  · rintro ⟨s, s1, s2, s3⟩
    have hpp : 0 < G 3 q.toNat * G 3 q2.toNat := Int.mul_pos (by omega) (by omega)
    have key : ∀ u : Int, 0 ≤ u → LQ G q (u + s) = LQ G q2 u := fun u hu => by
      have z := s3 (u % (G 3 q.toNat * G 3 q2.toNat)) (Int.emod_nonneg u (by omega)) (Int.emod_lt_of_pos u hpp)
      dsimp only at z
      rw [← LQ_md (q := q2), Int.emod_emod_of_dvd _ (Int.dvd_mul_left _ _), LQ_md, ← LQ_md (q := q), ← Int.emod_add_emod, Int.emod_emod_of_dvd _ (Int.dvd_mul_right _ _), Int.emod_add_emod, LQ_md] at z
      exact z
    rw [e1, e2] at key
    obtain ⟨t, t1, t2⟩ := shift_turn (d := ph G q) (d2 := ph G q2) (c := cq G q) (c2 := cq G q2) (by omega) (by omega) (by omega) (by omega) (fun k a b => (h4 k a b).1) (fun k a b => (k4 k a b).1) s1 key
    refine ⟨t, t1, fun k => ?_⟩
    rw [ER_ph (by omega), ER_ph (by omega), ← Int.natCast_add]
    exact t2 k
theorem PH1_iff {G : Nat → Nat → Int} {q q2 : Int} (h : PQ G q) (h2 : PQ G q2) : PH1 G q q2 ↔ AK (LQ G q) (LQ G q2) (G 3 q.toNat) (G 3 q2.toNat) := (PH1_SC1 h h2).trans (SC1_iff h h2)
theorem CLC_CLS {n : Nat → Int} {G : Nat → Nat → Int} (hV : VPat n G) (hL : VLam n G) : CLC G (n 2).toNat (n 2).toNat = CLS (CLASH G) (n 2).toNat :=
  CLC_cls hV hL (fun i k a b c d => PH1_iff (hV.q (hL.i a b).2.2.1.1 (hL.i a b).2.2.1.2) (hV.q (hL.i c d).2.2.1.1 (hL.i c d).2.2.1.2))
