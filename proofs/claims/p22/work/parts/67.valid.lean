/-! what holds of the reference's numbers before and behind each call -/
def ZER (n : Nat → Int) (G : Nat → Nat → Int) : Prop := (∀ q : Int, n 1 ≤ q → G 3 q.toNat = 0) ∧ (∀ i : Int, n 2 ≤ i → G 7 i.toNat = 0 ∧ G 10 i.toNat = 0) ∧ ∀ c : Int, n 4 ≤ c → G 12 c.toNat = 0
def INV (n : Nat → Int) (G : Nat → Nat → Int) : Prop := VDra n G ∧ VPat n G ∧ VLam n G ∧ VCha n G ∧ VNot n G ∧ ZER n G
section IV
variable {n n' : Nat → Int} {G : Nat → Nat → Int}
theorem INV.NB (h : INV n G) : NB n := ⟨⟨h.2.1.1, h.2.2.1.1⟩, h.2.2.2.2.1.1, h.2.2.2.1.1⟩
/-- n 5 says nothing of it -/
theorem INV.n5 {c : Int} (h : INV n G) : INV (va_up n 5 c) G := h
theorem INV.phase {t : Int} (h : INV n G) (h0 : n 0 < 6) (ht : 1 ≤ t ∧ t ≤ 9) : INV (va_up n 0 (n 0 + 1)) (va_up G 0 (va_up (G 0) (n 0).toNat t)) := by
  obtain ⟨⟨d1, d2⟩, h2⟩ := h
  refine ⟨⟨by show 0 ≤ n 0 + 1 ∧ n 0 + 1 ≤ 6; omega, fun k a b => ?_⟩, h2⟩
  have b' : k < n 0 + 1 := b
  show 1 ≤ va_up (G 0) (n 0).toNat t k.toNat ∧ va_up (G 0) (n 0).toNat t k.toNat ≤ 9
  by_cases e : k = n 0
  · rw [e, va_up_self]; exact ht
  · rw [va_up_ne _ _ (by omega)]; exact d2 k a (by omega)
theorem NV_ok {i : Int} (hN : NB n) (hi : 0 ≤ i ∧ i < n 2) (h6 : 0 ≤ G 6 i.toNat ∧ G 6 i.toNat < n 1) : NOK n (NV G i) := by
  unfold NOK NV
  split <;> omega
theorem INV.tell {i : Int} (h : INV n G) (hi : 0 ≤ i ∧ i < n 2) (h3 : n 3 < 512) : INV (va_up n 3 (n 3 + 1)) (va_up G 11 (va_up (G 11) (n 3).toNat (NV G i))) := by
  have hN := h.NB
  obtain ⟨h1, h2, h4, ⟨h5, h6⟩, ⟨h7, h8⟩, h9⟩ := h
  have hlv := (h4.i hi.1 hi.2).2.2.1
  refine ⟨h1, h2, h4, ⟨h5, fun ch a b => ⟨⟨(h6 ch a b).1.1, by show G 12 ch.toNat ≤ n 3 + 1; have := (h6 ch a b).1.2; omega⟩, (h6 ch a b).2⟩⟩, ⟨by show 0 ≤ n 3 + 1 ∧ n 3 + 1 ≤ 512; omega, fun j a b => ?_⟩, h9⟩
  have b' : j < n 3 + 1 := b
  show NOK n (va_up (G 11) (n 3).toNat (NV G i) j.toNat)
  by_cases e : j = n 3
  · rw [e, va_up_self]; exact NV_ok hN hi hlv
  · rw [va_up_ne _ _ (by omega)]; exact h8 j a (by omega)
theorem INV.fail {i fb : Int} (h : INV n G) (hi : 0 ≤ i ∧ i < n 2) (hfb : fb = 0 ∨ fb = 1) : INV n (va_up G 10 (va_up (G 10) i.toNat fb)) := by
  obtain ⟨h1, h2, ⟨h4, h5⟩, h6, h7, z1, z2, z3⟩ := h
  refine ⟨h1, h2, ⟨h4, fun j a b => ?_⟩, h6, h7, z1, fun j a => ⟨(z2 j a).1, ?_⟩, z3⟩
  · obtain ⟨v4, v5, v6, v7, v8, v9, vf⟩ := h5 j a b
    refine ⟨v4, v5, v6, v7, v8, v9, ?_⟩
    show va_up (G 10) i.toNat fb j.toNat = 0 ∨ va_up (G 10) i.toNat fb j.toNat = 1
    by_cases e : j = i
    · rw [e, va_up_self]; exact hfb
    · rw [va_up_ne _ _ (by omega)]; exact vf
  · show va_up (G 10) i.toNat fb j.toNat = 0
    rw [va_up_ne _ _ (by omega)]; exact (z2 j a).2
theorem INV.change {i q bg : Int} (h : INV n G) (hi : 0 ≤ i ∧ i < n 2) (hq : 0 ≤ q ∧ q < n 1) (hb : 0 ≤ bg ∧ bg ≤ 59) : INV n (va_up (va_up G 6 (va_up (G 6) i.toNat q)) 7 (va_up ((va_up G 6 (va_up (G 6) i.toNat q)) 7) i.toNat bg)) := by
  obtain ⟨h1, h2, ⟨h4, h5⟩, h6, h7, z1, z2, z3⟩ := h
  refine ⟨h1, h2, ⟨h4, fun j a b => ?_⟩, h6, h7, z1, fun j a => ⟨?_, (z2 j a).2⟩, z3⟩
  · obtain ⟨v4, v5, v6, v7, v8, v9, vf⟩ := h5 j a b
    refine ⟨v4, v5, ?_, ?_, v8, v9, vf⟩
    · show 0 ≤ va_up (G 6) i.toNat q j.toNat ∧ va_up (G 6) i.toNat q j.toNat < n 1
      by_cases e : j = i
      · rw [e, va_up_self]; exact hq
      · rw [va_up_ne _ _ (by omega)]; exact v6
    · show 0 ≤ va_up (G 7) i.toNat bg j.toNat ∧ va_up (G 7) i.toNat bg j.toNat ≤ 59
      by_cases e : j = i
      · rw [e, va_up_self]; exact hb
      · rw [va_up_ne _ _ (by omega)]; exact v7
  · show va_up (G 7) i.toNat bg j.toNat = 0
    rw [va_up_ne _ _ (by omega)]; exact (z2 j a).1
end IV
