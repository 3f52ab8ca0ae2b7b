/-! a turn by an even number of phases is a shift by their sum -/
theorem ES.turn {d d2 : Int → Int} {c c2 : Int} {t : Nat} (h : ∀ k : Nat, d (((k + t : Nat) : Int) % c) = d2 ((k : Int) % c2)) : ∀ k : Nat, ES d c (k + t) = ES d2 c2 k + ES d c t := by
  intro k
  induction k with
  | zero =>
    rw [Nat.zero_add]
    show _ = 0 + _
    rw [Int.zero_add]
  | succ k ih =>
    rw [show k + 1 + t = (k + t) + 1 by omega]
    show ES d c (k + t) + d (((k + t : Nat) : Int) % c) = ES d2 c2 k + d2 ((k : Int) % c2) + _
    rw [ih, h k]
    omega
theorem turn_lit {d d2 : Int → Int} {c c2 t : Nat} (hc : 0 < c) (hc2 : 0 < c2) (he : c % 2 = 0) (he2 : c2 % 2 = 0) (hd : ∀ k : Int, 0 ≤ k → k < c → 1 ≤ d k) (hd2 : ∀ k : Int, 0 ≤ k → k < c2 → 1 ≤ d2 k) (ht : t % 2 = 0)
    (h : ∀ k : Nat, d (((k + t : Nat) : Int) % c) = d2 ((k : Int) % c2)) (u : Int) (hu : 0 ≤ u) : lt d c (sf d c 0) (u + ES d c t) = lt d2 c2 (sf d2 c2 0) u := by
  obtain ⟨k, h1, h2⟩ := INP.ex hc2 hd2 u.toNat
  rw [← nt hu] at h1 h2
  have e1 := ES.turn h k
  have e2 := ES.turn h (k + 1)
  rw [INP.lit hc2 he2 hd2 k u ⟨h1, h2⟩, INP.lit hc he hd (k + t) (u + ES d c t) ⟨by omega, by rw [show k + t + 1 = k + 1 + t by omega]; omega⟩]
  exact decide_eq_decide.mpr (by omega)
