/-! and back: a shift that fits is a turn by an even number of phases -/
theorem shift_turn {d d2 : Int → Int} {c c2 : Nat} (hc : 0 < c) (hc2 : 0 < c2) (he : c % 2 = 0) (he2 : c2 % 2 = 0) (hd : ∀ k : Int, 0 ≤ k → k < c → 1 ≤ d k) (hd2 : ∀ k : Int, 0 ≤ k → k < c2 → 1 ≤ d2 k) {s : Int} (hs : 0 ≤ s)
    (h : ∀ u : Int, 0 ≤ u → lt d c (sf d c 0) (u + s) = lt d2 c2 (sf d2 c2 0) u) : ∃ t : Nat, t % 2 = 0 ∧ ∀ k : Nat, d (((k + t : Nat) : Int) % c) = d2 ((k : Int) % c2) := by
  have z0 : ES d2 c2 0 = 0 := rfl
  have zc := ES.pre (d := d2) c2 (Nat.le_refl c2)
  have zm := ES.mono hc2 hd2 0 c2
  rw [Nat.zero_add] at zm
  have zu := ES.up hc2 hd2 (c2 - 1)
  rw [show c2 - 1 + 1 = c2 by omega] at zu
  have zv := ES.up hc2 hd2 c2
  have hA : lt d c (sf d c 0) (sf d2 c2 0 + s) = true := by
    rw [h _ (by omega), INP.lit hc2 he2 hd2 c2 (sf d2 c2 0) ⟨by omega, by omega⟩]
    exact decide_eq_true (by omega)
  have hB : lt d c (sf d c 0) (sf d2 c2 0 - 1 + s) = false := by
    rw [h _ (by omega), INP.lit hc2 he2 hd2 (c2 - 1) (sf d2 c2 0 - 1) ⟨by omega, by rw [show c2 - 1 + 1 = c2 by omega]; omega⟩]
    exact decide_eq_false (by omega)
  obtain ⟨t, t1, t2⟩ := INP.ex hc hd (sf d2 c2 0 + s).toNat
  rw [← nt (show 0 ≤ sf d2 c2 0 + s by omega)] at t1 t2
  rw [INP.lit hc he hd t _ ⟨t1, t2⟩] at hA
  have te := of_decide_eq_true hA
  have ts : ES d c t = sf d2 c2 0 + s := by
    apply Classical.byContradiction
    intro hn
    rw [INP.lit hc he hd t _ ⟨by omega, by omega⟩] at hB
    exact of_decide_eq_false hB te
  have key : ∀ u : Int, 0 ≤ u → lt d c (sf d c 0) (u + ES d c t) = lt d2 c2 (sf d2 c2 0) u := fun u hu => by
    rw [ts, show u + (sf d2 c2 0 + s) = (u + sf d2 c2 0) + s by omega, h _ (by omega)]
    unfold lt
    rw [Int.add_emod_right]
  have run : ∀ k : Nat, ES d c (k + t) = ES d2 c2 k + ES d c t → d (((k + t : Nat) : Int) % c) = d2 ((k : Int) % c2) := fun k hk => by
    have a1 : ES d2 c2 (k + 1) = ES d2 c2 k + d2 ((k : Int) % c2) := rfl
    have a2 : ES d c (k + t + 1) = ES d c (k + t) + d (((k + t : Nat) : Int) % c) := rfl
    have p1 := ES.up hc2 hd2 k
    have p2 := ES.up hc hd (k + t)
    have p3 := ES.up hc2 hd2 (k + 1)
    have p4 := ES.up hc hd (k + t + 1)
    have q1 := ES.mono hc2 hd2 0 k
    rw [Nat.zero_add] at q1
    rcases Int.lt_trichotomy (d (((k + t : Nat) : Int) % c)) (d2 ((k : Int) % c2)) with hlt | heq | hgt
    · have w := key (ES d c (k + t + 1) - ES d c t) (by omega)
      rw [show ES d c (k + t + 1) - ES d c t + ES d c t = ES d c (k + t + 1) by omega, INP.lit hc he hd (k + t + 1) _ ⟨Int.le_refl _, by omega⟩, INP.lit hc2 he2 hd2 k _ ⟨by omega, by omega⟩] at w
      have w2 := decide_eq_decide.mp w
      omega
    · exact heq
    · have w := key (ES d2 c2 (k + 1)) (by omega)
      rw [INP.lit hc he hd (k + t) _ ⟨by omega, by omega⟩, INP.lit hc2 he2 hd2 (k + 1) _ ⟨Int.le_refl _, by omega⟩] at w
      have w2 := decide_eq_decide.mp w
      omega
  have all : ∀ k : Nat, ES d c (k + t) = ES d2 c2 k + ES d c t := by
    intro k
    induction k with
    | zero => rw [Nat.zero_add, z0, Int.zero_add]
    | succ k ih =>
      have r := run k ih
      rw [show k + 1 + t = (k + t) + 1 by omega]
      show ES d c (k + t) + d (((k + t : Nat) : Int) % c) = ES d2 c2 k + d2 ((k : Int) % c2) + _
      rw [ih, r]
      omega
  exact ⟨t, by omega, fun k => run k (all k)⟩
