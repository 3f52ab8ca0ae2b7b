section IV3
variable {n : Nat → Int} {G : Nat → Nat → Int}
theorem INV.sh (h : INV n G) (h10 : n 4 < 10) : INV (va_up n 4 (n 4 + 1)) (SH G (n 4) 12) := by
  obtain ⟨h1, h2, h4, ⟨h6, h6b⟩, ⟨h7, h8⟩, z1, z2, z3⟩ := h
  have e13 : SH G (n 4) 12 13 = fun j : Nat => if 12 * n 4 ≤ (j : Int) ∧ (j : Int) < 12 * n 4 + 12 then -1 else G 13 j := rfl
  have hn1 := h2.1
  refine ⟨h1, h2, h4, ⟨by show 0 ≤ n 4 + 1 ∧ n 4 + 1 ≤ 10; omega, fun c a b => ⟨?_, fun k k1 k2 => ?_⟩⟩, ⟨h7, h8⟩, z1, z2, fun c a => z3 c (by have a' : n 4 + 1 ≤ c := a; omega)⟩
  · have b' : c < n 4 + 1 := b
    show 0 ≤ G 12 c.toNat ∧ G 12 c.toNat ≤ n 3
    by_cases e : c = n 4
    · rw [e, z3 (n 4) (by omega)]; omega
    · exact (h6b c a (by omega)).1
  · have b' : c < n 4 + 1 := b
    show -1 ≤ SH G (n 4) 12 13 (12 * c + k).toNat ∧ SH G (n 4) 12 13 (12 * c + k).toNat < n 1
    rw [e13]
    dsimp only
    by_cases e : c = n 4
    · rw [if_pos (by omega)]; omega
    · rw [if_neg (by omega)]
      exact (h6b c a (by omega)).2 k k1 k2
theorem INV.put {ch : Int} (h : INV n G) (hc : 0 ≤ ch ∧ ch < n 4) (hlt : G 12 ch.toNat < n 3) : INV n (putG ch G) := by
  obtain ⟨h1, h2, h4, ⟨h6, h6b⟩, ⟨h7, h8⟩, z1, z2, z3⟩ := h
  have hch := h6b ch hc.1 hc.2
  have hno := h8 (G 12 ch.toNat) hch.1.1 hlt
  have hn1 := h2.1
  have e12 : putG ch G 12 = va_up (G 12) ch.toNat (G 12 ch.toNat + 1) := rfl
  have e13 : putG ch G 13 = va_up (G 13) (12 * ch + G 11 (G 12 ch.toNat).toNat / 32).toNat (if G 11 (G 12 ch.toNat).toNat % 32 = 31 then -1 else G 11 (G 12 ch.toNat).toNat % 32) := rfl
  refine ⟨h1, h2, h4, ⟨h6, fun c a b => ⟨?_, fun k k1 k2 => ?_⟩⟩, ⟨h7, h8⟩, z1, z2, fun c a => ?_⟩
  · rw [e12]
    by_cases e : c = ch
    · rw [e, va_up_self]; omega
    · rw [va_up_ne _ _ (by omega)]; exact (h6b c a b).1
  · rw [e13]
    by_cases e : (12 * c + k).toNat = (12 * ch + G 11 (G 12 ch.toNat).toNat / 32).toNat
    · rw [e, va_up_self]
      obtain ⟨k3, k4⟩ := hno
      split <;> omega
    · rw [va_up_ne _ _ e]; exact (h6b c a b).2 k k1 k2
  · rw [e12, va_up_ne _ _ (by omega)]
    exact z3 c a
theorem INV.puts {ch : Int} (h : INV n G) (hc : 0 ≤ ch ∧ ch < n 4) : ∀ k : Nat, G 12 ch.toNat + k ≤ n 3 → INV n (PUT ch G k) := by
  intro k
  induction k with
  | zero => intro _; exact h
  | succ k ih =>
    intro hk
    have hi := ih (by omega)
    exact hi.put hc (by rw [PUT.at12]; omega)
end IV3
