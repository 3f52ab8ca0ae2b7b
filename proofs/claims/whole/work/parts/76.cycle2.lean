/-! the cycle is the least even period of the endless row -/
def ER (D : Nat → Int) (c : Int) : Int → Int := fun u => D (u % c).toNat
theorem ER_per {D : Nat → Int} {c p : Int} (hc : 0 < c) : PE (ER D c) p ↔ ∀ k : Nat, D (((k : Int) + p) % c).toNat = D ((k : Int) % c).toNat := by
  constructor
  · intro h k; exact h k
  · intro h u
    have z := h (u % c).toNat
    rw [← nt (Int.emod_nonneg u (by omega)), Int.emod_add_emod, Int.emod_emod] at z
    exact z
theorem CYC_least {D : Nat → Int} {c : Int} (hc : c = 2 ∨ c = 4 ∨ c = 6) : (2 ≤ CYC D c ∧ CYC D c ≤ c ∧ CYC D c % 2 = 0) ∧ PE (ER D c) (CYC D c) ∧ ∀ q : Int, 0 < q → q % 2 = 0 → PE (ER D c) q → q % CYC D c = 0 := by
  obtain ⟨h1, h2, h3⟩ := CYC_spec (D := D) hc
  have hcc : PE (ER D c) c := fun u => by unfold ER; rw [Int.add_emod_right]
  obtain ⟨m, m1, m2, m3⟩ := PE.least (f := TW (ER D c)) 3 (c / 2) (by omega) (by omega) (TW_iff.mpr (by rw [show 2 * (c / 2) = c by omega]; exact hcc))
  have hm := TW_iff.mp m2
  have hdv := m3 (c / 2) (by omega) (TW_iff.mpr (by rw [show 2 * (c / 2) = c by omega]; exact hcc))
  have hcm : c % (2 * m) = 0 := by
    have e : c = 2 * (c / 2) := by omega
    have e2 := Int.mul_ediv_add_emod (c / 2) m
    rw [hdv, Int.add_zero] at e2
    rw [e, ← e2, ← Int.mul_assoc]
    exact Int.mul_emod_right _ _
  have hk : CYK D c (2 * m) := (CYK_row (by omega) (by omega)).mpr ⟨hcm, (ER_per (by omega)).mp hm⟩
  have hb : 2 ≤ CYC D c ∧ CYC D c ≤ c := by omega
  have hper : PE (ER D c) (CYC D c) := by
    rcases h1 with h1 | h1
    · rw [h1]; exact hcc
    · exact (ER_per (by omega)).mpr ((CYK_row (by omega) (by omega)).mp h1.1).2
  have hle : CYC D c ≤ 2 * m := by
    apply Classical.byContradiction
    intro hn
    exact h3 (2 * m) (by omega) (by omega) (by omega) hk
  have h9 := m3 (CYC D c / 2) (by omega) (TW_iff.mpr (by rw [show 2 * (CYC D c / 2) = CYC D c by omega]; exact hper))
  have h8 := Int.le_of_dvd (by omega) (Int.dvd_of_emod_eq_zero h9)
  have e : CYC D c = 2 * m := by omega
  refine ⟨⟨hb.1, hb.2, h2⟩, hper, fun q q1 q2 q3 => ?_⟩
  have z := m3 (q / 2) (by omega) (TW_iff.mpr (by rw [show 2 * (q / 2) = q by omega]; exact q3))
  have e2 := Int.mul_ediv_add_emod (q / 2) m
  rw [z, Int.add_zero] at e2
  rw [e, show q = 2 * (q / 2) by omega, ← e2, ← Int.mul_assoc]
  exact Int.mul_emod_right _ _
