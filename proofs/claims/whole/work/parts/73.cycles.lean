/-! the least even cycle -/
theorem cycF_spec {D : Nat → Int} {c : Int} (hc : c = 2 ∨ c = 4 ∨ c = 6) : ∀ (k : Nat) (few : Int), 2 ≤ few → few % 2 = 0 → few + 2 * k = 8 → few ≤ c + 2 → (few ≤ c ∨ cycF D c k few = c) ∧ (cycF D c k few = c ∨ (CYK D c (cycF D c k few) ∧ cycF D c k few < c ∧ few ≤ cycF D c k few)) ∧ cycF D c k few % 2 = 0 ∧ ∀ e : Int, few ≤ e → e < cycF D c k few → e % 2 = 0 → ¬ CYK D c e := by
  intro k
  induction k with
  | zero => intro few h1 h2 h3 h4; exact ⟨Or.inr rfl, Or.inl rfl, by show c % 2 = 0; omega, fun e a b => by have b' : e < c := b; omega⟩
  | succ k ih =>
    intro few h1 h2 h3 h4
    unfold cycF
    by_cases hlt : few < c
    · rw [if_pos hlt]
      by_cases hk : CYK D c few
      · rw [if_pos (tb_t hk)]
        exact ⟨Or.inl (by omega), Or.inr ⟨hk, hlt, Int.le_refl few⟩, h2, fun e a b => by omega⟩
      · rw [if_neg (by rw [tb_f hk]; exact Bool.false_ne_true)]
        obtain ⟨z0, z1, z2, z3⟩ := ih (few + 2) (by omega) (by omega) (by omega) (by omega)
        refine ⟨Or.inl (by omega), z1.imp id (fun z => ⟨z.1, z.2.1, by omega⟩), z2, fun e a b he => ?_⟩
        by_cases ee : e = few
        · rw [ee]; exact hk
        · exact z3 e (by omega) b he
    · rw [if_neg hlt]
      exact ⟨Or.inr rfl, Or.inl rfl, by omega, fun e a b => by omega⟩
theorem CYC_spec {D : Nat → Int} {c : Int} (hc : c = 2 ∨ c = 4 ∨ c = 6) : (CYC D c = c ∨ (CYK D c (CYC D c) ∧ CYC D c < c ∧ 2 ≤ CYC D c)) ∧ CYC D c % 2 = 0 ∧ ∀ e : Int, 2 ≤ e → e < CYC D c → e % 2 = 0 → ¬ CYK D c e := (cycF_spec (D := D) hc 3 2 (by decide) (by decide) (by decide) (by omega)).2
