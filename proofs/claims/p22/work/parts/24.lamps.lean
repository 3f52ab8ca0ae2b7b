/-! lamps: where a place is seen -/
def qrt (a b : Int) : Int := if 0 < a ∧ 0 ≤ b then 0 else if a ≤ 0 ∧ 0 < b then 1 else if a < 0 ∧ b ≤ 0 then 2 else 3
def ab (a : Int) : Int := if a < 0 then -a else a
def moreP (a b : Int) : Prop := (qrt a b % 2 = 0 → ab a ≤ ab b) ∧ (qrt a b % 2 ≠ 0 → ab b ≤ ab a)
noncomputable def sectP (a b : Int) : Int := if a = 0 ∧ b = 0 then -1 else 2 * qrt a b + bz (tb (moreP a b))
theorem qrt_bd (a b : Int) : 0 ≤ qrt a b ∧ qrt a b ≤ 3 := by unfold qrt; repeat' split <;> omega
theorem sectP_bd (a b : Int) : -1 ≤ sectP a b ∧ sectP a b ≤ 7 := by
  unfold sectP
  have h1 := qrt_bd a b
  have h2 := bz_01 (tb (moreP a b))
  split <;> omega
/-- the lamp i of the reference can be seen from x, y -/
def SEES (G : Nat → Nat → Int) (i x y : Int) : Prop := ((-(G 8 i.toNat) ≤ x - G 4 i.toNat ∧ x - G 4 i.toNat ≤ G 8 i.toNat) ∧ -(G 8 i.toNat) ≤ y - G 5 i.toNat ∧ y - G 5 i.toNat ≤ G 8 i.toNat) ∧
  (sectP (x - G 4 i.toNat) (y - G 5 i.toNat) < 0 ∨ (G 9 i.toNat) / 2 ^ (sectP (x - G 4 i.toNat) (y - G 5 i.toNat)).toNat % 2 = 1)
/-- a lamp's numbers are in their ranges -/
def LV (n : Nat → Int) (G : Nat → Nat → Int) (i : Int) : Prop := (0 ≤ G 4 i.toNat ∧ G 4 i.toNat ≤ 31) ∧ (0 ≤ G 5 i.toNat ∧ G 5 i.toNat ≤ 31) ∧ (0 ≤ G 6 i.toNat ∧ G 6 i.toNat < n 1) ∧ (0 ≤ G 7 i.toNat ∧ G 7 i.toNat ≤ 59) ∧ (1 ≤ G 8 i.toNat ∧ G 8 i.toNat ≤ 40) ∧ (1 ≤ G 9 i.toNat ∧ G 9 i.toNat ≤ 255) ∧ (G 10 i.toNat = 0 ∨ G 10 i.toNat = 1)
def VPat (n : Nat → Int) (G : Nat → Nat → Int) : Prop := (0 ≤ n 1 ∧ n 1 ≤ 20) ∧ ∀ q : Int, 0 ≤ q → q < n 1 → PQ G q
def VLam (n : Nat → Int) (G : Nat → Nat → Int) : Prop := (0 ≤ n 2 ∧ n 2 ≤ 12) ∧ ∀ i : Int, 0 ≤ i → i < n 2 → LV n G i
theorem VPat.q {n : Nat → Int} {G : Nat → Nat → Int} (h : VPat n G) {q : Int} (h1 : 0 ≤ q) (h2 : q < n 1) : PQ G q := h.2 q h1 h2
theorem VLam.i {n : Nat → Int} {G : Nat → Nat → Int} (h : VLam n G) {q : Int} (h1 : 0 ≤ q) (h2 : q < n 2) : LV n G q := h.2 q h1 h2
theorem iv_sshr {a k : Int} (ha : 0 ≤ a ∧ a < 2147483648) (hk : 0 ≤ k ∧ k < 32) : iv a >>> (iv k &&& 31) = iv (a / 2 ^ k.toNat) := by
  obtain ⟨ha1, ha2⟩ := ha
  obtain ⟨hk1, hk2⟩ := hk
  have e1 : a = ((a.toNat : Nat) : Int) := by omega
  have e2 : k = ((k.toNat : Nat) : Int) := by omega
  have h3 : ∀ j, j < 32 → ((nI j &&& 31).toBitVec.smod 32).toNat = j := by decide
  rw [e1, e2, iv_nat, iv_nat, pk_shrN (by omega) (nI k.toNat &&& 31) k.toNat (h3 _ (by omega)), ← iv_nat]
  congr 1
theorem iv_and1 {a : Int} (ha : 0 ≤ a ∧ a < 2147483648) : iv a &&& iv 1 = iv (a % 2) := by
  obtain ⟨ha1, ha2⟩ := ha
  have e1 : a = ((a.toNat : Nat) : Int) := by omega
  have h := pk_andN (n := a.toNat) (by omega) (m := 1) 1 (by decide)
  rw [e1, iv_nat, show iv 1 = 1 by decide, h, ← iv_nat]
  congr 1
theorem tb_no {P : Prop} (h : tb P = false) : ¬ P := fun z => by rw [tb_t z] at h; cases h
noncomputable def CNT (P : Int → Prop) : Nat → Int
  | 0 => 0
  | t + 1 => CNT P t + bz (tb (P t))
theorem CNT.succ {P : Int → Prop} {k : Int} (h : 0 ≤ k) : CNT P (k + 1).toNat = CNT P k.toNat + bz (tb (P k)) := by
  rw [show (k + 1).toNat = k.toNat + 1 by omega]
  show CNT P k.toNat + bz (tb (P k.toNat)) = _
  rw [show ((k.toNat : Nat) : Int) = k by omega]
theorem CNT.bd (P : Int → Prop) : ∀ t : Nat, 0 ≤ CNT P t ∧ CNT P t ≤ t := by
  intro t
  induction t with
  | zero => exact ⟨Int.le_refl 0, Int.le_refl 0⟩
  | succ t ih =>
    have h := bz_01 (tb (P t))
    show 0 ≤ CNT P t + bz (tb (P t)) ∧ CNT P t + bz (tb (P t)) ≤ _
    omega
/-- from the place k of 1024 both can be seen -/
def BOTHS (G : Nat → Nat → Int) (i j k : Int) : Prop := SEES G i (k % 32) (k / 32) ∧ SEES G j (k % 32) (k / 32)
noncomputable def COMM (G : Nat → Nat → Int) (i j : Int) : Int := CNT (BOTHS G i j) 1024
/-- the lamp i shines in the second t -/
def ON (G : Nat → Nat → Int) (i t : Int) : Bool := decide (G 10 i.toNat = 0) && LQ G (G 6 i.toNat) (t + G 7 i.toNat)
def COULD (G : Nat → Nat → Int) (q i fr many : Int) : Prop := EXb (fun t => ALLb (fun u => LQ G q (t + u) = ON G i (fr + u)) many) (G 3 q.toNat)
def NV (G : Nat → Nat → Int) (i : Int) : Int := 32 * i + (if G 10 i.toNat = 0 then G 6 i.toNat else 31)
/-- the sum over the first k of what each lamp gives with those ahead of it -/
noncomputable def CLS (P : Int → Int → Prop) : Nat → Int
  | 0 => 0
  | k + 1 => CLS P k + CNT (P k) k
theorem CLS.succ {P : Int → Int → Prop} {k : Int} (h : 0 ≤ k) : CLS P (k + 1).toNat = CLS P k.toNat + CNT (P k) k.toNat := by
  rw [show (k + 1).toNat = k.toNat + 1 by omega]
  show CLS P k.toNat + CNT (P k.toNat) k.toNat = _
  rw [show ((k.toNat : Nat) : Int) = k by omega]
theorem CLS.bd (P : Int → Int → Prop) : ∀ k : Nat, 0 ≤ CLS P k ∧ CLS P k ≤ k * k := by
  intro k
  induction k with
  | zero => exact ⟨Int.le_refl 0, Int.le_refl 0⟩
  | succ k ih =>
    have h := CNT.bd (P k) k
    have e : ((k + 1 : Nat) : Int) * ((k + 1 : Nat) : Int) = k * k + k + k + 1 := by
      rw [Int.natCast_add, Int.natCast_one, Int.add_mul, Int.mul_add, Int.mul_one, Int.one_mul]
      omega
    show 0 ≤ CLS P k + CNT (P k) k ∧ CLS P k + CNT (P k) k ≤ _
    rw [e]
    generalize (k : Int) * k = z at ih ⊢
    omega
/-- the lamps k and j clash -/
def CLASH (G : Nat → Nat → Int) (k j : Int) : Prop := AK (LQ G (G 6 k.toNat)) (LQ G (G 6 j.toNat)) (G 3 (G 6 k.toNat).toNat) (G 3 (G 6 j.toNat).toNat) ∧ 0 < COMM G k j
/-- which of the first t: NONE, the one, SEVERAL -/
noncomputable def TK (P : Int → Prop) : Nat → Int
  | 0 => -1
  | t + 1 => if tb (P t) = true then (if TK P t = -1 then (t : Int) else -2) else TK P t
theorem TK.succ {P : Int → Prop} {k : Int} (h : 0 ≤ k) : TK P (k + 1).toNat = if tb (P k) = true then (if TK P k.toNat = -1 then k else -2) else TK P k.toNat := by
  rw [show (k + 1).toNat = k.toNat + 1 by omega]
  show (if tb (P k.toNat) = true then (if TK P k.toNat = -1 then ((k.toNat : Nat) : Int) else -2) else TK P k.toNat) = _
  rw [show ((k.toNat : Nat) : Int) = k by omega]
theorem TK.bd (P : Int → Prop) : ∀ t : Nat, -2 ≤ TK P t ∧ TK P t ≤ t := by
  intro t
  induction t with
  | zero => show -2 ≤ (-1 : Int) ∧ (-1 : Int) ≤ ((0 : Nat) : Int); omega
  | succ t ih =>
    unfold TK
    split
    · split <;> omega
    · omega
/-- the light of the lamp i could be the lamp k of the chart ch -/
def CANB (G : Nat → Nat → Int) (ch x y i fr many k : Int) : Prop := (0 ≤ G 13 (12 * ch + k).toNat ∧ SEES G k x y) ∧ COULD G (G 13 (12 * ch + k).toNat) i fr many
def VCha (n : Nat → Int) (G : Nat → Nat → Int) : Prop := (0 ≤ n 4 ∧ n 4 ≤ 10) ∧ ∀ ch : Int, 0 ≤ ch → ch < n 4 → (0 ≤ G 12 ch.toNat ∧ G 12 ch.toNat ≤ n 3) ∧ ∀ k : Int, 0 ≤ k → k < 12 → -1 ≤ G 13 (12 * ch + k).toNat ∧ G 13 (12 * ch + k).toNat < n 1
def NOK (n : Nat → Int) (z : Int) : Prop := (0 ≤ z ∧ z / 32 < n 2) ∧ (z % 32 = 31 ∨ z % 32 < n 1)
def VNot (n : Nat → Int) (G : Nat → Nat → Int) : Prop := (0 ≤ n 3 ∧ n 3 ≤ 512) ∧ ∀ j : Int, 0 ≤ j → j < n 3 → NOK n (G 11 j.toNat)
def VDra (n : Nat → Int) (G : Nat → Nat → Int) : Prop := (0 ≤ n 0 ∧ n 0 ≤ 6) ∧ ∀ k : Int, 0 ≤ k → k < n 0 → 1 ≤ G 0 k.toNat ∧ G 0 k.toNat ≤ 9
