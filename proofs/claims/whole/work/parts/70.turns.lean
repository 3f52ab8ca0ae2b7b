/-! phases turned: the endless row of phases, its sums -/
/-- the sum of the first k of the endless row -/
def ES (d : Int → Int) (c : Int) : Nat → Int
  | 0 => 0
  | k + 1 => ES d c k + d ((k : Int) % c)
/-- the second u lies in the phase k of the endless row -/
def INP (d : Int → Int) (c : Int) (k : Nat) (u : Int) : Prop := ES d c k ≤ u ∧ u < ES d c (k + 1)
theorem ES.pre {d : Int → Int} {c : Nat} : ∀ k : Nat, k ≤ c → ES d c k = sf d k 0 := by
  intro k
  induction k with
  | zero => intro _; rfl
  | succ k ih =>
    intro h
    show ES d c k + d ((k : Int) % c) = _
    rw [ih (by omega), sf_snoc2, Int.emod_eq_of_lt (by omega) (by omega), Int.zero_add]
theorem ES.shift {d : Int → Int} {c : Nat} (hc : 0 < c) : ∀ k : Nat, ES d c (k + c) = ES d c k + sf d c 0 := by
  intro k
  induction k with
  | zero =>
    rw [Nat.zero_add, ES.pre c (Nat.le_refl c)]
    show _ = 0 + _
    rw [Int.zero_add]
  | succ k ih =>
    rw [show k + 1 + c = (k + c) + 1 by omega]
    show ES d c (k + c) + d (((k + c : Nat) : Int) % c) = ES d c k + d ((k : Int) % c) + _
    rw [ih, show ((k + c : Nat) : Int) = (k : Int) + c by omega, Int.add_emod_right]
    omega
theorem ES.up {d : Int → Int} {c : Nat} (hc : 0 < c) (hd : ∀ k : Int, 0 ≤ k → k < c → 1 ≤ d k) (k : Nat) : ES d c k + 1 ≤ ES d c (k + 1) := by
  have h := hd ((k : Int) % c) (Int.emod_nonneg _ (by omega)) (Int.emod_lt_of_pos _ (by omega))
  show ES d c k + 1 ≤ ES d c k + d ((k : Int) % c)
  omega
theorem ES.mono {d : Int → Int} {c : Nat} (hc : 0 < c) (hd : ∀ k : Int, 0 ≤ k → k < c → 1 ≤ d k) (k : Nat) : ∀ j : Nat, ES d c k + j ≤ ES d c (k + j) := by
  intro j
  induction j with
  | zero => show ES d c k + 0 ≤ ES d c k; omega
  | succ j ih =>
    have h := ES.up hc hd (k + j)
    show ES d c k + ((j + 1 : Nat) : Int) ≤ ES d c (k + j + 1)
    omega
/-- every second lies in a phase -/
theorem INP.ex {d : Int → Int} {c : Nat} (hc : 0 < c) (hd : ∀ k : Int, 0 ≤ k → k < c → 1 ≤ d k) : ∀ u : Nat, ∃ k : Nat, INP d c k u := by
  intro u
  induction u with
  | zero =>
    have h := ES.up hc hd 0
    have h0 : ES d c 0 = 0 := rfl
    exact ⟨0, by show ES d c 0 ≤ 0; omega, by show (0 : Int) < ES d c (0 + 1); omega⟩
  | succ u ih =>
    obtain ⟨k, h1, h2⟩ := ih
    by_cases e : ((u + 1 : Nat) : Int) < ES d c (k + 1)
    · exact ⟨k, by omega, e⟩
    · have h := ES.up hc hd (k + 1)
      exact ⟨k + 1, by omega, by omega⟩
/-- and the phase says whether it is light -/
theorem INP.lit {d : Int → Int} {c : Nat} (hc : 0 < c) (he : c % 2 = 0) (hd : ∀ k : Int, 0 ≤ k → k < c → 1 ≤ d k) : ∀ (k : Nat) (u : Int), INP d c k u → lt d c (sf d c 0) u = decide ((k : Int) % 2 = 0) := by
  intro k
  induction k using Nat.strongRecOn with
  | _ k ih =>
    intro u ⟨h1, h2⟩
    have hs := ES.mono hc hd 0 c
    rw [Nat.zero_add, ES.pre c (Nat.le_refl c)] at hs
    have h0 : ES d c 0 = 0 := rfl
    have hk0 := ES.mono hc hd 0 k
    rw [Nat.zero_add] at hk0
    by_cases hkc : k < c
    · have e1 := ES.pre (d := d) (c := c) k (by omega)
      have hm := ES.mono hc hd (k + 1) (c - (k + 1))
      rw [show k + 1 + (c - (k + 1)) = c by omega, ES.pre c (Nat.le_refl c)] at hm
      have h2' : u < ES d c k + d ((k : Int) % c) := h2
      rw [Int.emod_eq_of_lt (by omega) (by omega)] at h2'
      unfold lt
      rw [Int.emod_eq_of_lt (by omega) (by omega)]
      have z := litF_at (d := d) (c := c) (fun t a b => by have := hd t a b; omega) (i := k) (k := u - ES d c k) ⟨by omega, by omega⟩ ⟨by omega, by omega⟩
      rw [show ((k : Int)).toNat = k from Int.toNat_natCast k, ← e1, show ES d c k + (u - ES d c k) = u by omega] at z
      exact z
    · have e1 := ES.shift (d := d) hc (k - c)
      have e2 := ES.shift (d := d) hc (k - c + 1)
      rw [show k - c + c = k by omega] at e1
      rw [show k - c + 1 + c = k + 1 by omega] at e2
      have z := ih (k - c) (by omega) (u - sf d c 0) ⟨by omega, by omega⟩
      have z2 : lt d c (sf d c 0) (u - sf d c 0) = lt d c (sf d c 0) u := by
        unfold lt
        rw [Int.sub_emod_right]
      rw [← z2, z]
      exact decide_eq_decide.mpr (by omega)
