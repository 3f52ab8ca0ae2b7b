/-! what the reference's writing calls make of its rows -/
theorem sf_snoc (d : Int → Int) : ∀ (f : Nat) (k : Int), sf d (f + 1) k = sf d f k + d (k + f) := by
  intro f
  induction f with
  | zero => intro k; show d k + 0 = 0 + d (k + ((0 : Nat) : Int)); rw [show k + ((0 : Nat) : Int) = k by omega]; omega
  | succ f ih =>
    intro k
    show d k + sf d (f + 1) (k + 1) = (d k + sf d f (k + 1)) + d (k + ((f + 1 : Nat) : Int))
    rw [ih (k + 1), show k + ((f + 1 : Nat) : Int) = k + 1 + f by omega]
    omega
/-- the first k phases of the draft are the pattern P's -/
def PG (G : Nat → Nat → Int) (P k : Int) : Nat → Nat → Int := va_up (va_up G 1 (fun j => if 6 * P ≤ (j : Int) ∧ (j : Int) < 6 * P + k then G 0 ((j : Int) - 6 * P).toNat else G 1 j)) 3 (va_up (G 3) P.toNat (G 3 P.toNat + sf (fun j => G 0 j.toNat) k.toNat 0))
theorem up_self {α : Type} (f : Nat → α) (k : Nat) : va_up f k (f k) = f := by
  funext j
  unfold va_up
  split
  · rename_i h; rw [h]
  · rfl
theorem PG.zero (G : Nat → Nat → Int) (P : Int) : PG G P 0 = G := by
  unfold PG
  rw [show (0 : Int).toNat = 0 from rfl]
  have h1 : (fun j : Nat => if 6 * P ≤ (j : Int) ∧ (j : Int) < 6 * P + 0 then G 0 ((j : Int) - 6 * P).toNat else G 1 j) = G 1 := by
    funext j
    rw [if_neg (by omega)]
  rw [h1, up_self]
  show va_up G 3 (va_up (G 3) P.toNat (G 3 P.toNat + 0)) = G
  rw [Int.add_zero, up_self, up_self]
theorem PG.step {G : Nat → Nat → Int} {P k : Int} (hP : 0 ≤ P) (hk : 0 ≤ k) {D : Nat → Nat → Int} (hD : D = PG G P k) :
    va_up (va_up D 1 (va_up (D 1) (6 * P + k).toNat (D 0 k.toNat))) 3 (va_up (va_up D 1 (va_up (D 1) (6 * P + k).toNat (D 0 k.toNat)) 3) P.toNat (va_up D 1 (va_up (D 1) (6 * P + k).toNat (D 0 k.toNat)) 3 P.toNat + va_up D 1 (va_up (D 1) (6 * P + k).toNat (D 0 k.toNat)) 0 k.toNat)) = PG G P (k + 1) := by
  subst hD
  have e0 : PG G P k 0 = G 0 := rfl
  have e1 : PG G P k 1 = fun j : Nat => if 6 * P ≤ (j : Int) ∧ (j : Int) < 6 * P + k then G 0 ((j : Int) - 6 * P).toNat else G 1 j := rfl
  have e3 : PG G P k 3 = va_up (G 3) P.toNat (G 3 P.toNat + sf (fun j => G 0 j.toNat) k.toNat 0) := rfl
  have f3 : ∀ v, va_up (PG G P k) 1 v 3 = PG G P k 3 := fun v => rfl
  have f0 : ∀ v, va_up (PG G P k) 1 v 0 = PG G P k 0 := fun v => rfl
  rw [f3, f0, e0, e1, e3]
  funext a j
  by_cases h3 : a = 3
  · subst h3
    show va_up (va_up (G 3) P.toNat (G 3 P.toNat + sf (fun j => G 0 j.toNat) k.toNat 0)) P.toNat (va_up (G 3) P.toNat (G 3 P.toNat + sf (fun j => G 0 j.toNat) k.toNat 0) P.toNat + G 0 k.toNat) j = va_up (G 3) P.toNat (G 3 P.toNat + sf (fun j => G 0 j.toNat) (k + 1).toNat 0) j
    rw [show (k + 1).toNat = k.toNat + 1 by omega, sf_snoc]
    unfold va_up
    by_cases hj : j = P.toNat
    · simp only [hj, if_true]
      rw [show (0 + (k.toNat : Int)).toNat = k.toNat by omega]
      omega
    · simp only [hj, if_false]
  · by_cases h1 : a = 1
    · subst h1
      show va_up (fun j : Nat => if 6 * P ≤ (j : Int) ∧ (j : Int) < 6 * P + k then G 0 ((j : Int) - 6 * P).toNat else G 1 j) (6 * P + k).toNat (G 0 k.toNat) j = if 6 * P ≤ (j : Int) ∧ (j : Int) < 6 * P + (k + 1) then G 0 ((j : Int) - 6 * P).toNat else G 1 j
      unfold va_up
      by_cases hj : j = (6 * P + k).toNat
      · rw [if_pos hj, if_pos (by omega), show ((j : Int) - 6 * P).toNat = k.toNat by omega]
      · rw [if_neg hj]
        dsimp only
        by_cases hc : 6 * P ≤ (j : Int) ∧ (j : Int) < 6 * P + k
        · rw [if_pos hc, if_pos (by omega)]
        · rw [if_neg hc, if_neg (by omega)]
    · unfold PG va_up
      simp only [h1, h3, if_false]
/-- one notice is put into the chart ch -/
def putG (ch : Int) (G : Nat → Nat → Int) : Nat → Nat → Int :=
  va_up (va_up G 13 (va_up (G 13) (12 * ch + G 11 (G 12 ch.toNat).toNat / 32).toNat (if G 11 (G 12 ch.toNat).toNat % 32 = 31 then -1 else G 11 (G 12 ch.toNat).toNat % 32))) 12 (va_up (G 12) ch.toNat (G 12 ch.toNat + 1))
def PUT (ch : Int) (G : Nat → Nat → Int) : Nat → Nat → Nat → Int
  | 0 => G
  | k + 1 => putG ch (PUT ch G k)
theorem PUT.succ {ch : Int} {G : Nat → Nat → Int} {k : Int} (h : 0 ≤ k) : PUT ch G (k + 1).toNat = putG ch (PUT ch G k.toNat) := by
  rw [show (k + 1).toNat = k.toNat + 1 by omega]
  rfl
theorem PUT.at11 (ch : Int) (G : Nat → Nat → Int) : ∀ k, PUT ch G k 11 = G 11 := by
  intro k
  induction k with
  | zero => rfl
  | succ k ih => exact ih
theorem PUT.at12 (ch : Int) (G : Nat → Nat → Int) : ∀ k : Nat, PUT ch G k 12 ch.toNat = G 12 ch.toNat + k := by
  intro k
  induction k with
  | zero => show _ = _ + ((0 : Nat) : Int); rw [show PUT ch G 0 = G from rfl]; omega
  | succ k ih =>
    show va_up (PUT ch G k 12) ch.toNat (PUT ch G k 12 ch.toNat + 1) ch.toNat = _
    rw [va_up_self, ih]
    omega
def mn (a b : Int) : Int := if a ≤ b then a else b
/-- the first k places of a new chart are empty -/
def SH (G : Nat → Nat → Int) (ch k : Int) : Nat → Nat → Int := va_up G 13 (fun j => if 12 * ch ≤ (j : Int) ∧ (j : Int) < 12 * ch + k then -1 else G 13 j)
theorem SH.zero (G : Nat → Nat → Int) (ch : Int) : SH G ch 0 = G := by
  unfold SH
  have h1 : (fun j : Nat => if 12 * ch ≤ (j : Int) ∧ (j : Int) < 12 * ch + 0 then -1 else G 13 j) = G 13 := by
    funext j
    rw [if_neg (by omega)]
  rw [h1, up_self]
theorem SH.step {G : Nat → Nat → Int} {ch k : Int} (h : 0 ≤ ch) (hk : 0 ≤ k) : va_up (SH G ch k) 13 (va_up (SH G ch k 13) (12 * ch + k).toNat (-1)) = SH G ch (k + 1) := by
  funext a j
  by_cases h1 : a = 13
  · subst h1
    show va_up (fun j : Nat => if 12 * ch ≤ (j : Int) ∧ (j : Int) < 12 * ch + k then -1 else G 13 j) (12 * ch + k).toNat (-1) j = if 12 * ch ≤ (j : Int) ∧ (j : Int) < 12 * ch + (k + 1) then -1 else G 13 j
    unfold va_up
    by_cases hj : j = (12 * ch + k).toNat
    · rw [if_pos hj, if_pos (by omega)]
    · rw [if_neg hj]
      dsimp only
      by_cases hc : 12 * ch ≤ (j : Int) ∧ (j : Int) < 12 * ch + k
      · rw [if_pos hc, if_pos (by omega)]
      · rw [if_neg hc, if_neg (by omega)]
  · unfold SH va_up
    simp only [h1, if_false]
