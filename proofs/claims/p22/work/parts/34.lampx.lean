/-! the class's lamps: where they are seen -/
theorem iv_abs {a : Int} (h : rg a) : (if 0 ≤ iv a then iv a else 0 - iv a) = iv (ab a) := by
  have e0 : (0 : Int32) = iv 0 := iv_zero.symm
  have hl : (0 ≤ iv a) ↔ 0 ≤ a := by rw [e0]; exact iv_le (by decide) h
  unfold ab
  by_cases c : 0 ≤ a
  · rw [if_pos (hl.mpr c), if_neg (by omega)]
  · rw [if_neg (fun z => c (hl.mp z)), if_pos (by omega), e0, iv_sub]
    congr 1
    omega
def WITHIN (a b r se : Int) : Prop := (ab a ≤ r ∧ ab b ≤ r) ∧ (sectP a b = -1 ∨ se / 2 ^ (sectP a b).toNat % 2 = 1)
/-- the rows of a lamp's sight: x, y its place, r its reach, se its sectors -/
def VIS (x y r se : Int) (row : Int) (col : Int) : Prop := WITHIN (col - x) (row - y) r se
noncomputable def SIGHT (x y r se : Int) (row : Nat) : Int := BW (VIS x y r se row) 32
/-- the sum over the first k rows -/
def SUMF (f : Int → Int) : Nat → Int
  | 0 => 0
  | k + 1 => SUMF f k + f k
theorem SUMF.succ {f : Int → Int} {k : Int} (h : 0 ≤ k) : SUMF f (k + 1).toNat = SUMF f k.toNat + f k := by
  rw [show (k + 1).toNat = k.toNat + 1 by omega]
  show SUMF f k.toNat + f (k.toNat) = _
  rw [show ((k.toNat : Nat) : Int) = k by omega]
theorem SUMF.bd {f : Int → Int} (h : ∀ u, 0 ≤ f u ∧ f u ≤ 32) : ∀ k : Nat, 0 ≤ SUMF f k ∧ SUMF f k ≤ 32 * k := by
  intro k
  induction k with
  | zero => exact ⟨Int.le_refl 0, Int.le_refl 0⟩
  | succ k ih =>
    have := h k
    show 0 ≤ SUMF f k + f k ∧ SUMF f k + f k ≤ _
    omega
noncomputable def SHARE (P Q : Int → Int → Prop) : Int := SUMF (fun row => CNT (fun u => P row u ∧ Q row u) 32) 32
theorem BW_iv (P : Int → Prop) : 0 ≤ BW P 32 ∧ BW P 32 < 4294967296 := BW.bd P 32
theorem ab_bd {a : Int} : 0 ≤ ab a ∧ -(ab a) ≤ a ∧ a ≤ ab a ∧ (ab a = a ∨ ab a = -a) := by unfold ab; split <;> omega
