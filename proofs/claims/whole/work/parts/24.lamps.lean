/-! lamps: where a place is seen -/
def qrt (a b : Int) : Int := if 0 < a ∧ 0 ≤ b then 0 else if a ≤ 0 ∧ 0 < b then 1 else if a < 0 ∧ b ≤ 0 then 2 else 3
def ab (a : Int) : Int := if a < 0 then -a else a
def moreP (a b : Int) : Prop := (qrt a b % 2 = 0 → ab a ≤ ab b) ∧ (qrt a b % 2 ≠ 0 → ab b ≤ ab a)
noncomputable def sectP (a b : Int) : Int := if a = 0 ∧ b = 0 then -1 else 2 * qrt a b + bz (tb (moreP a b))
theorem qrt_bd (a b : Int) : 0 ≤ qrt a b ∧ qrt a b ≤ 3 := by unfold qrt; repeat' split <;> omega
theorem sectP_bd (a b : Int) : -1 ≤ sectP a b ∧ sectP a b ≤ 7 := by
  unfold sectP
  have h1 := qrt_bd a b
  have h2 := bz_01 (tb (moreP a b))
  split <;> omega
/-- the lamp i of the reference can be seen from x, y -/
def SEES (G : Nat → Nat → Int) (i x y : Int) : Prop := ((-(G 8 i.toNat) ≤ x - G 4 i.toNat ∧ x - G 4 i.toNat ≤ G 8 i.toNat) ∧ -(G 8 i.toNat) ≤ y - G 5 i.toNat ∧ y - G 5 i.toNat ≤ G 8 i.toNat) ∧
  (sectP (x - G 4 i.toNat) (y - G 5 i.toNat) < 0 ∨ (G 9 i.toNat) / 2 ^ (sectP (x - G 4 i.toNat) (y - G 5 i.toNat)).toNat % 2 = 1)
/-- a lamp's numbers are in their ranges -/
def LV (n : Nat → Int) (G : Nat → Nat → Int) (i : Int) : Prop := (0 ≤ G 4 i.toNat ∧ G 4 i.toNat ≤ 31) ∧ (0 ≤ G 5 i.toNat ∧ G 5 i.toNat ≤ 31) ∧ (0 ≤ G 6 i.toNat ∧ G 6 i.toNat < n 1) ∧ (0 ≤ G 7 i.toNat ∧ G 7 i.toNat ≤ 59) ∧ (1 ≤ G 8 i.toNat ∧ G 8 i.toNat ≤ 40) ∧ (1 ≤ G 9 i.toNat ∧ G 9 i.toNat ≤ 255) ∧ (G 10 i.toNat = 0 ∨ G 10 i.toNat = 1)
def VPat (n : Nat → Int) (G : Nat → Nat → Int) : Prop := (0 ≤ n 1 ∧ n 1 ≤ 20) ∧ ∀ q : Int, 0 ≤ q → q < n 1 → PQ G q
def VLam (n : Nat → Int) (G : Nat → Nat → Int) : Prop := (0 ≤ n 2 ∧ n 2 ≤ 12) ∧ ∀ i : Int, 0 ≤ i → i < n 2 → LV n G i
theorem VPat.q {n : Nat → Int} {G : Nat → Nat → Int} (h : VPat n G) {q : Int} (h1 : 0 ≤ q) (h2 : q < n 1) : PQ G q := h.2 q h1 h2
theorem VLam.i {n : Nat → Int} {G : Nat → Nat → Int} (h : VLam n G) {q : Int} (h1 : 0 ≤ q) (h2 : q < n 2) : LV n G q := h.2 q h1 h2
theorem iv_sshr {a k : Int} (ha : 0 ≤ a ∧ a < 2147483648) (hk : 0 ≤ k ∧ k < 32) : iv a >>> (iv k &&& 31) = iv (a / 2 ^ k.toNat) := by
  obtain ⟨ha1, ha2⟩ := ha
  obtain ⟨hk1, hk2⟩ := hk
  have e1 : a = ((a.toNat : Nat) : Int) := by omega
  have e2 : k = ((k.toNat : Nat) : Int) := by omega
  have h3 : ∀ j, j < 32 → ((nI j &&& 31).toBitVec.smod 32).toNat = j := by decide
  rw [e1, e2, iv_nat, iv_nat, pk_shrN (by omega) (nI k.toNat &&& 31) k.toNat (h3 _ (by omega)), ← iv_nat]
  congr 1
theorem iv_and1 {a : Int} (ha : 0 ≤ a ∧ a < 2147483648) : iv a &&& iv 1 = iv (a % 2) := by
  obtain ⟨ha1, ha2⟩ := ha
  have e1 : a = ((a.toNat : Nat) : Int) := by omega
  have h := pk_andN (n := a.toNat) (by omega) (m := 1) 1 (by decide)
  rw [e1, iv_nat, show iv 1 = 1 by decide, h, ← iv_nat]
  congr 1
