/-! a lamp changes -/
section SETS
variable {I : LK} {L : List Nat} {f : Nat → va_E} {ρ : Nat → Int} {ε : EV} {x : Nat} {n : Nat → Int} {G G' : Nat → Nat → Int} {dr aP aL aT aC : Nat} {Dr : Nat → Int} {eP eL eT eC : Int → Nat}
theorem PATR.congrG {q : Int} {a : Nat} (h1 : G' 1 = G 1) (h2 : G' 2 = G 2) (h3 : G' 3 = G 3) (h : PATR I ε G q a) : PATR I ε G' q a := by
  unfold PATR at h ⊢
  simp only [ph, cq, h1, h2, h3] at h ⊢
  exact h
theorem LAMR.congrG {i : Int} {a : Nat} (h4 : G' 4 i.toNat = G 4 i.toNat) (h5 : G' 5 i.toNat = G 5 i.toNat) (h6 : G' 6 i.toNat = G 6 i.toNat) (h7 : G' 7 i.toNat = G 7 i.toNat) (h8 : G' 8 i.toNat = G 8 i.toNat) (h9 : G' 9 i.toNat = G 9 i.toNat) (h10 : G' 10 i.toNat = G 10 i.toNat) (h : LAMR I ε G i a) : LAMR I ε G' i a := by
  unfold LAMR at h ⊢
  rw [h4, h5, h6, h7, h8, h9, h10]
  exact h
theorem NOTR.congrG {j : Int} {a : Nat} (h11 : G' 11 j.toNat = G 11 j.toNat) (h : NOTR I G j a) : NOTR I G' j a := by
  unfold NOTR at h ⊢
  rw [h11]
  exact h
theorem CHAR.congrG {ch : Int} {a : Nat} (h12 : G' 12 = G 12) (h13 : G' 13 = G 13) (h : CHAR I ε G ch a) : CHAR I ε G' ch a := by
  unfold CHAR at h ⊢
  rw [h12, h13]
  exact h
theorem RXC.lampset {i : Int} {si : Nat} {g : Nat → Int} (h : RXC (IP L f ρ) ε x n G dr aP aL aT aC Dr eP eL eT eC) (hN : NB n) (hi : 0 ≤ i ∧ i < n 2)
    (ho : IP L f ρ (3000 + i) (eL i) (oLa (G 4 i.toNat) (G 5 i.toNat) si (G 6 i.toNat) (G 7 i.toNat) (G 10 i.toNat))) (hs : IP L f ρ (4000 + i) si (eI ε 32 g)) (hg : ∀ j : Nat, j < 32 → g j = BW (VIS (G 4 i.toNat) (G 5 i.toNat) (G 8 i.toNat) (G 9 i.toNat) j) 32)
    (hG : ∀ k, k ≠ 6 → k ≠ 7 → k ≠ 10 → G' k = G k) (hj : ∀ j : Int, 0 ≤ j → j ≠ i → G' 6 j.toNat = G 6 j.toNat ∧ G' 7 j.toNat = G 7 j.toNat ∧ G' 10 j.toNat = G 10 j.toNat) {pt bg fl : Int} (h6 : G' 6 i.toNat = pt) (h7 : G' 7 i.toNat = bg) (h10 : G' 10 i.toNat = fl) :
    RXC (IP L (va_up f (eL i) (oLa (G 4 i.toNat) (G 5 i.toNat) si pt bg fl)) ρ) ε x n G' dr aP aL aT aC Dr eP eL eT eC := by
  obtain ⟨hx0, hxD, hlP, hlL, hlT, hlC, hpP, hpL, hpT, hpC⟩ := h
  have kp : KEEP L f ρ L (va_up f (eL i) (oLa (G 4 i.toNat) (G 5 i.toNat) si pt bg fl)) ρ (fun z => z = 3000 + i) := KEEP.up ho.2
  refine ⟨kp _ _ _ hx0 (by omega), ⟨kp _ _ _ hxD.1 (by omega), fun k a b => by rw [hG 0 (by decide) (by decide) (by decide)]; exact hxD.2.1 k a b, hxD.2.2⟩, hlP.keep kp (by omega) (by omega), hlL.keep kp (by omega) (by omega), hlT.keep kp (by omega) (by omega), hlC.keep kp (by omega) (by omega),
    fun q a b => ((hpP q a b).keep kp ?_ ?_).congrG (hG 1 (by decide) (by decide) (by decide)) (hG 2 (by decide) (by decide) (by decide)) (hG 3 (by decide) (by decide) (by decide)), fun j a b => ?_, fun q a b => ((hpT q a b).keep kp ?_).congrG (by rw [hG 11 (by decide) (by decide) (by decide)]), fun q a b => ((hpC q a b).keep kp ?_ ?_).congrG (hG 12 (by decide) (by decide) (by decide)) (hG 13 (by decide) (by decide) (by decide))⟩
  · intro z; omega
  · intro z; omega
  · by_cases e : j = i
    · subst e
      refine ⟨si, g, ⟨⟨ho.1.1, ?_⟩, ho.2⟩, kp _ _ _ hs (by omega), fun k hk => ?_⟩
      · rw [hG 4 (by decide) (by decide) (by decide), hG 5 (by decide) (by decide) (by decide), h6, h7, h10]
        exact va_up_self _ _ _
      · rw [hG 4 (by decide) (by decide) (by decide), hG 5 (by decide) (by decide) (by decide), hG 8 (by decide) (by decide) (by decide), hG 9 (by decide) (by decide) (by decide)]
        exact hg k hk
    · obtain ⟨j6, j7, j10⟩ := hj j a e
      exact ((hpL j a b).keep kp (by omega) (by omega)).congrG (by rw [hG 4 (by decide) (by decide) (by decide)]) (by rw [hG 5 (by decide) (by decide) (by decide)]) j6 j7 (by rw [hG 8 (by decide) (by decide) (by decide)]) (by rw [hG 9 (by decide) (by decide) (by decide)]) j10
  · intro z; omega
  · intro z; omega
  · intro z; omega
end SETS
