/-! a cycle is a period of the endless row -/
theorem REPS.mod {D : Nat → Int} {c few : Int} (h : REPS D c few) (h0 : 0 < few) : ∀ (b : Nat) (i : Int), 0 ≤ i → i < c → i ≤ b → D i.toNat = D (i % few).toNat := by
  intro b
  induction b with
  | zero => intro i a1 a2 a3; rw [show i = 0 by omega, Int.zero_emod]
  | succ b ih =>
    intro i a1 a2 a3
    by_cases e : i < few
    · rw [Int.emod_eq_of_lt a1 e]
    · rw [h i (by omega) a2, ih (i - few) (by omega) (by omega) (by omega), Int.sub_emod_right]
theorem CYK_row {D : Nat → Int} {c few : Int} (h0 : 0 < few) (hc : 0 < c) : CYK D c few ↔ c % few = 0 ∧ ∀ k : Nat, D (((k : Int) + few) % c).toNat = D ((k : Int) % c).toNat := by
  unfold CYK
  refine and_congr_right (fun hd => ?_)
  constructor
  · intro h k
    have a1 := Int.emod_nonneg ((k : Int) + few) (show c ≠ 0 by omega)
    have a2 := Int.emod_lt_of_pos ((k : Int) + few) hc
    have b1 := Int.emod_nonneg (k : Int) (show c ≠ 0 by omega)
    have b2 := Int.emod_lt_of_pos (k : Int) hc
    rw [h.mod h0 c.toNat _ a1 a2 (by omega), h.mod h0 c.toNat _ b1 b2 (by omega), Int.emod_emod_of_dvd _ (Int.dvd_of_emod_eq_zero hd), Int.emod_emod_of_dvd _ (Int.dvd_of_emod_eq_zero hd), Int.add_emod_right]
  · intro h i a b
    have z := h (i - few).toNat
    rw [← nt (show 0 ≤ i - few by omega), show i - few + few = i by omega, Int.emod_eq_of_lt (by omega) b, Int.emod_eq_of_lt (by omega) (by omega)] at z
    exact z
