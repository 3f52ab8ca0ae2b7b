section IV2
variable {n n' : Nat → Int} {G : Nat → Nat → Int}
theorem INV.lamp {x9 y9 q rc se : Int} (h : INV n G) (h12 : n 2 < 12) (hxy : (0 ≤ x9 ∧ x9 ≤ 31) ∧ 0 ≤ y9 ∧ y9 ≤ 31) (hq : 0 ≤ q ∧ q < n 1) (hr : 1 ≤ rc ∧ rc ≤ 40) (hs : 1 ≤ se ∧ se ≤ 255) : INV (va_up n 2 (n 2 + 1)) (GL n G x9 y9 q rc se) := by
  obtain ⟨h1, h2, ⟨h4, h5⟩, h6, ⟨h7, h8⟩, z1, z2, z3⟩ := h
  refine ⟨h1, h2, ⟨by show 0 ≤ n 2 + 1 ∧ n 2 + 1 ≤ 12; omega, fun j a b => ?_⟩, h6, ⟨h7, fun j a b => ?_⟩, z1, fun j a => z2 j (by have a' : n 2 + 1 ≤ j := a; omega), z3⟩
  · have b' : j < n 2 + 1 := b
    show (0 ≤ va_up (G 4) (n 2).toNat x9 j.toNat ∧ va_up (G 4) (n 2).toNat x9 j.toNat ≤ 31) ∧ (0 ≤ va_up (G 5) (n 2).toNat y9 j.toNat ∧ va_up (G 5) (n 2).toNat y9 j.toNat ≤ 31) ∧ (0 ≤ va_up (G 6) (n 2).toNat q j.toNat ∧ va_up (G 6) (n 2).toNat q j.toNat < n 1) ∧ (0 ≤ G 7 j.toNat ∧ G 7 j.toNat ≤ 59) ∧ (1 ≤ va_up (G 8) (n 2).toNat rc j.toNat ∧ va_up (G 8) (n 2).toNat rc j.toNat ≤ 40) ∧ (1 ≤ va_up (G 9) (n 2).toNat se j.toNat ∧ va_up (G 9) (n 2).toNat se j.toNat ≤ 255) ∧ (G 10 j.toNat = 0 ∨ G 10 j.toNat = 1)
    by_cases e : j = n 2
    · rw [e, va_up_self, va_up_self, va_up_self, va_up_self, va_up_self]
      obtain ⟨z7, z10⟩ := z2 (n 2) (by omega)
      exact ⟨hxy.1, hxy.2, hq, by omega, hr, hs, Or.inl z10⟩
    · have hne : j.toNat ≠ (n 2).toNat := by omega
      rw [va_up_ne _ _ hne, va_up_ne _ _ hne, va_up_ne _ _ hne, va_up_ne _ _ hne, va_up_ne _ _ hne]
      exact h5 j a (by omega)
  · obtain ⟨k1, k2⟩ := h8 j a b
    exact ⟨⟨k1.1, by show G 11 j.toNat / 32 < n 2 + 1; omega⟩, k2⟩
theorem INV.pattern (h : INV n G) (h0 : n 0 = 2 ∨ n 0 = 4 ∨ n 0 = 6) (h20 : n 1 < 20) : INV (va_up (va_up n 0 0) 1 (n 1 + 1)) (GP n G) := by
  obtain ⟨⟨d1, d2⟩, ⟨p1, p2⟩, ⟨h4, h5⟩, ⟨h6, h6b⟩, ⟨h7, h8⟩, z1, z2, z3⟩ := h
  refine ⟨⟨by show 0 ≤ (0 : Int) ∧ (0 : Int) ≤ 6; omega, fun k a b => absurd b (by show ¬ k < 0; omega)⟩, ⟨by show 0 ≤ n 1 + 1 ∧ n 1 + 1 ≤ 20; omega, fun q a b => ?_⟩, ⟨h4, fun j a b => ?_⟩, ⟨h6, fun c a b => ⟨(h6b c a b).1, fun k k1 k2 => ?_⟩⟩, ⟨h7, fun j a b => ?_⟩, fun q a => ?_, z2, z3⟩
  · have b' : q < n 1 + 1 := b
    by_cases e : q = n 1
    · subst e
      have e2 : cq (GP n G) (n 1) = (n 0).toNat := by show (GP n G 2 (n 1).toNat).toNat = _; rw [GP_cq, va_up_self]
      have ep : ∀ k : Int, 0 ≤ k → k < ((n 0).toNat : Nat) → ph (GP n G) (n 1) k = G 0 k.toNat := fun k k1 k2 => by
        rw [GP_ph, if_pos (by omega)]
        congr 1
        omega
      unfold PQ PV
      rw [e2]
      refine ⟨by omega, fun k k1 k2 => by rw [ep k k1 k2]; exact d2 k k1 (by omega), ?_⟩
      rw [GP_3, va_up_self, z1 (n 1) (by omega), Int.zero_add]
      exact (sf_congr (c := (n 0).toNat) (fun k k1 k2 => ep k k1 k2) _ 0 (by omega) (by omega)).symm
    · have hq := p2 q a (by omega)
      have e2 : cq (GP n G) q = cq G q := by show (GP n G 2 q.toNat).toNat = _; rw [GP_cq, va_up_ne _ _ (by omega)]
      have hc : cq G q ≤ 6 := by have z := hq.1; omega
      have ep : ∀ k : Int, 0 ≤ k → k < (cq G q : Nat) → ph (GP n G) q k = ph G q k := fun k k1 k2 => by
        rw [GP_ph, if_neg (by omega)]
      unfold PQ
      rw [e2, GP_3, va_up_ne _ _ (by omega)]
      exact PV.congr ep hq
  · obtain ⟨v4, v5, v6, v7⟩ := h5 j a b
    exact ⟨v4, v5, ⟨v6.1, by show G 6 j.toNat < n 1 + 1; omega⟩, v7⟩
  · have z := (h6b c a b).2 k k1 k2
    exact ⟨z.1, by show G 13 (12 * c + k).toNat < n 1 + 1; omega⟩
  · obtain ⟨k1, k2⟩ := h8 j a b
    exact ⟨k1, k2.imp id (fun z => by show G 11 j.toNat % 32 < n 1 + 1; omega)⟩
  · have a' : n 1 + 1 ≤ q := a
    rw [GP_3, va_up_ne _ _ (by omega)]
    exact z1 q (by omega)
end IV2
