/-! periods of any row -/
section PG9
variable {α : Type}
def PE (f : Int → α) (p : Int) : Prop := ∀ u, f (u + p) = f u
theorem PE.mulN {f : Int → α} {p : Int} (h : PE f p) (u : Int) : ∀ k : Nat, f (u + p * k) = f u := by
  intro k
  induction k with
  | zero => rw [show u + p * ((0 : Nat) : Int) = u by rw [Int.natCast_zero, Int.mul_zero, Int.add_zero]]
  | succ k ih => rw [show u + p * ((k + 1 : Nat) : Int) = (u + p * k) + p by rw [Int.natCast_add, Int.natCast_one, Int.mul_add, Int.mul_one, Int.add_assoc], h, ih]
theorem PE.rem {f : Int → α} {p q : Int} (h : PE f p) (k : PE f q) (hp : 0 < p) (hq : 0 ≤ q) : PE f (q % p) := fun u => by
  have h1 := h.mulN (u + q % p) (q / p).toNat
  have h2 : 0 ≤ q / p := Int.ediv_nonneg hq (by omega)
  rw [← nt h2, Int.add_assoc, Int.emod_add_mul_ediv, k u] at h1
  exact h1.symm
theorem PE.least {f : Int → α} : ∀ (b : Nat) (p : Int), 0 < p → p ≤ b → PE f p → ∃ m : Int, (0 < m ∧ m ≤ p) ∧ PE f m ∧ ∀ q : Int, 0 < q → PE f q → q % m = 0 := by
  intro b
  induction b with
  | zero => intro p h1 h2; omega
  | succ b ih =>
    intro p h1 h2 h3
    by_cases hall : ∀ q : Int, 0 < q → PE f q → q % p = 0
    · exact ⟨p, ⟨h1, Int.le_refl p⟩, h3, hall⟩
    · have hex : ∃ q : Int, 0 < q ∧ PE f q ∧ ¬ q % p = 0 := by
        apply Classical.byContradiction
        intro hn
        exact hall fun q a b => Classical.byContradiction fun c => hn ⟨q, a, b, c⟩
      obtain ⟨q, k1, k2, k3⟩ := hex
      have b1 := Int.emod_nonneg q (show p ≠ 0 by omega)
      have b2 := Int.emod_lt_of_pos q h1
      obtain ⟨m, z1, z2⟩ := ih (q % p) (by omega) (by omega) (h3.rem k2 h1 (by omega))
      exact ⟨m, ⟨z1.1, by omega⟩, z2⟩
/-- two by two: its periods are the even ones -/
def TW (f : Int → α) : Int → α × α := fun u => (f (2 * u), f (2 * u + 1))
theorem TW_iff {f : Int → α} {p : Int} : PE (TW f) p ↔ PE f (2 * p) := by
  constructor
  · intro h u
    have z := h (u / 2)
    unfold TW at z
    have z1 := congrArg Prod.fst z
    have z2 := congrArg Prod.snd z
    dsimp only at z1 z2
    by_cases e : u % 2 = 0
    · rw [show 2 * (u / 2 + p) = u + 2 * p by omega, show 2 * (u / 2) = u by omega] at z1
      exact z1
    · rw [show 2 * (u / 2 + p) + 1 = u + 2 * p by omega, show 2 * (u / 2) + 1 = u by omega] at z2
      exact z2
  · intro h u
    unfold TW
    rw [show 2 * (u + p) = 2 * u + 2 * p by omega, show 2 * u + 2 * p + 1 = (2 * u + 1) + 2 * p by omega, h, h]
end PG9
