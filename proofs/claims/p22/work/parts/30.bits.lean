/-! bits (the first family: pasted from the laws that are given for pasting) -/
theorem wb_tb (n : Nat) : (lN n).toBitVec = BitVec.ofNat 64 n := rfl
theorem wb_inj {a b : Int64} (h : a.toBitVec = b.toBitVec) : a = b := Int64.toBitVec_inj.mp h
theorem wb_tn {n : Nat} (h : n < 2 ^ 64) : (lN n).toBitVec.toNat = n := by rw [wb_tb, BitVec.toNat_ofNat, Nat.mod_eq_of_lt h]
theorem wb_of (x : Int64) : ∃ n, n < 2 ^ 64 ∧ x = lN n := ⟨x.toBitVec.toNat, x.toBitVec.isLt, wb_inj (by rw [wb_tb]; simp)⟩
theorem wb_of32 (x : Int32) : ∃ n, n < 2 ^ 32 ∧ x = nI n := ⟨x.toBitVec.toNat, x.toBitVec.isLt, Int32.toBitVec_inj.mp (by show _ = BitVec.ofNat 32 _; simp)⟩
theorem wb_c : ∀ k, k < 64 → ((nI k).toInt64 &&& 63) = lN k := by decide +kernel
theorem wb_cu : ∀ k, k < 64 → ((nI k).toInt64.toUInt64 &&& Int64.toUInt64 63) = UInt64.ofNat k := by decide +kernel
theorem wb_sm : ∀ k, k < 64 → (BitVec.ofNat 64 k).smod 64 = BitVec.ofNat 64 k := by decide +kernel
theorem wb_pw {a b : Nat} (h : a ≤ b) : 2 ^ b = 2 ^ a * 2 ^ (b - a) := by rw [← Nat.pow_add]; congr 1; omega
theorem wb_lt2 {a b : Nat} (h : a < b) : 2 ^ a < 2 ^ b := Nat.pow_lt_pow_right (by decide) h
theorem wb_mod (n : Nat) : lN n = lN (n % 2 ^ 64) := wb_inj (by rw [wb_tb, wb_tb]; apply BitVec.eq_of_toNat_eq; rw [BitVec.toNat_ofNat, BitVec.toNat_ofNat, Nat.mod_mod])
theorem wb_shr {n k : Nat} (hn : n < 2 ^ 64) (hk : k < 64) : ((lN n).toUInt64 >>> ((nI k).toInt64.toUInt64 &&& Int64.toUInt64 63)).toInt64 = lN (n / 2 ^ k) := by
  rw [wb_cu k hk]
  apply wb_inj
  apply BitVec.eq_of_toNat_eq
  show ((lN n).toUInt64 >>> UInt64.ofNat k).toNat = (BitVec.ofNat 64 _).toNat
  have h1 : (UInt64.ofNat k).toNat = k := by
    show (BitVec.ofNat 64 k).toNat = k
    rw [BitVec.toNat_ofNat, Nat.mod_eq_of_lt (by omega)]
  have h2 : (lN n).toUInt64.toNat = n := wb_tn hn
  rw [UInt64.toNat_shiftRight, h1, h2, Nat.mod_eq_of_lt hk, Nat.shiftRight_eq_div_pow, BitVec.toNat_ofNat, Nat.mod_eq_of_lt (Nat.lt_of_le_of_lt (Nat.div_le_self _ _) hn)]
theorem wb_shl (n : Nat) {k : Nat} (hk : k < 64) : lN n <<< ((nI k).toInt64 &&& 63) = lN (n * 2 ^ k) := by
  rw [wb_c k hk]
  apply wb_inj
  rw [Int64.toBitVec_shiftLeft, wb_tb, wb_tb, wb_tb, wb_sm k hk]
  apply BitVec.eq_of_toNat_eq
  rw [BitVec.shiftLeft_eq', BitVec.toNat_shiftLeft, BitVec.toNat_ofNat, BitVec.toNat_ofNat, BitVec.toNat_ofNat, Nat.mod_eq_of_lt (show k < 2 ^ 64 by omega), Nat.shiftLeft_eq, Nat.mul_mod, Nat.mod_mod, ← Nat.mul_mod]
theorem wb_and {a b : Nat} (ha : a < 2 ^ 64) (hb : b < 2 ^ 64) : lN a &&& lN b = lN (a &&& b) := by
  apply wb_inj
  rw [Int64.toBitVec_and, wb_tb, wb_tb, wb_tb]
  apply BitVec.eq_of_toNat_eq
  rw [BitVec.toNat_and, BitVec.toNat_ofNat, BitVec.toNat_ofNat, BitVec.toNat_ofNat, Nat.mod_eq_of_lt ha, Nat.mod_eq_of_lt hb, Nat.mod_eq_of_lt (Nat.and_lt_two_pow _ hb)]
theorem wb_or {a b : Nat} (ha : a < 2 ^ 64) (hb : b < 2 ^ 64) : lN a ||| lN b = lN (a ||| b) := by
  apply wb_inj
  rw [Int64.toBitVec_or, wb_tb, wb_tb, wb_tb]
  apply BitVec.eq_of_toNat_eq
  rw [BitVec.toNat_or, BitVec.toNat_ofNat, BitVec.toNat_ofNat, BitVec.toNat_ofNat, Nat.mod_eq_of_lt ha, Nat.mod_eq_of_lt hb, Nat.mod_eq_of_lt (Nat.or_lt_two_pow ha hb)]
theorem wb_mask {n k : Nat} (hn : n < 2 ^ 64) (hk : k < 64) : lN n &&& lN (2 ^ k - 1) = lN (n % 2 ^ k) := by
  rw [wb_and hn (by have := wb_lt2 hk; omega), Nat.and_two_pow_sub_one_eq_mod]
theorem wb_a1 {n : Nat} (hn : n < 2 ^ 64) : lN n &&& 1 = lN (n % 2) := wb_mask (k := 1) hn (by decide)
theorem wb_bit {n k : Nat} (hn : n < 2 ^ 64) (hk : k < 64) : ((lN n).toUInt64 >>> ((nI k).toInt64.toUInt64 &&& Int64.toUInt64 63)).toInt64 &&& 1 = lN (n / 2 ^ k % 2) := by
  rw [wb_shr hn hk, wb_a1 (Nat.lt_of_le_of_lt (Nat.div_le_self _ _) hn)]
theorem nt {a : Int} (h : 0 ≤ a) : a = ((a.toNat : Nat) : Int) := by omega
theorem pw_cast (k : Nat) : ((2 ^ k : Nat) : Int) = 2 ^ k := Int.natCast_pow 2 k
theorem jv_shr {a k : Int} (ha : 0 ≤ a ∧ a < 9223372036854775808) (hk : 0 ≤ k ∧ k < 64) : ((jv a).toUInt64 >>> ((iv k).toInt64.toUInt64 &&& Int64.toUInt64 63)).toInt64 = jv (a / 2 ^ k.toNat) := by
  have e1 := nt ha.1
  have e2 := nt hk.1
  have h := wb_shr (n := a.toNat) (k := k.toNat) (by omega) (by omega)
  rw [e1, e2, jv_nat, iv_nat, h, ← jv_nat]
  congr 1
theorem jv_and1 {a : Int} (ha : 0 ≤ a ∧ a < 9223372036854775808) : jv a &&& jv 1 = jv (a % 2) := by
  have e1 := nt ha.1
  rw [e1, jv_nat, show jv 1 = 1 by decide, wb_a1 (by omega), ← jv_nat]
  congr 1
theorem jv_shl {k : Int} (hk : 0 ≤ k ∧ k < 64) : jv 1 <<< ((iv k).toInt64 &&& 63) = jv (2 ^ k.toNat) := by
  have e2 := nt hk.1
  have h := wb_shl 1 (k := k.toNat) (by omega)
  rw [e2, show jv 1 = lN 1 by decide, iv_nat, h, Nat.one_mul, ← jv_nat, pw_cast]
  congr 1
theorem or_pow {a k : Nat} (h : a < 2 ^ k) : a ||| 2 ^ k = a + 2 ^ k := by
  have h1 := Nat.two_pow_add_eq_or_of_lt h 1
  rw [Nat.mul_one] at h1
  rw [Nat.or_comm, ← h1, Nat.add_comm]
theorem pw_lt {a : Int} {k : Nat} (h : a < 2 ^ k) (h0 : 0 ≤ a) : a.toNat < 2 ^ k := by
  have e := pw_cast k
  have e1 := nt h0
  omega
theorem pw_mono {k m : Nat} (h : k ≤ m) : (2 : Int) ^ k ≤ 2 ^ m := by
  rw [← pw_cast, ← pw_cast]
  exact Int.ofNat_le.mpr (Nat.pow_le_pow_right (by decide) h)
theorem pw_pos (k : Nat) : (1 : Int) ≤ 2 ^ k := by
  have h := pw_mono (Nat.zero_le k)
  exact h
theorem pw_succ (k : Nat) : (2 : Int) ^ (k + 1) = 2 * 2 ^ k := by rw [Int.pow_succ]; omega
theorem jv_or {a k : Int} (ha : 0 ≤ a) (hk : 0 ≤ k ∧ k < 62) (h : a < 2 ^ k.toNat) : jv a ||| jv (2 ^ k.toNat) = jv (a + 2 ^ k.toNat) := by
  have e1 := nt ha
  have h2 := pw_lt h ha
  have h3 : (2 : Nat) ^ k.toNat < 2 ^ 62 := wb_lt2 (by omega)
  rw [← pw_cast, jv_nat, e1, jv_nat, wb_or (by omega) (by omega), or_pow h2, ← Int.natCast_add, jv_nat]
theorem iv_ushr {a k : Int} (ha : 0 ≤ a ∧ a < 4294967296) (hk : 0 ≤ k ∧ k < 32) : ((iv a).toUInt32 >>> ((iv k).toUInt32 &&& Int32.toUInt32 31)).toInt32 = iv (a / 2 ^ k.toNat) := by
  have e1 := nt ha.1
  have e2 := nt hk.1
  have h3 : ∀ j, j < 32 → (((nI j).toUInt32 &&& Int32.toUInt32 31).toBitVec % 32).toNat = j := by decide
  have h := pk_ushrN (n := a.toNat) (by omega) (nI k.toNat) k.toNat (h3 _ (by omega))
  rw [e1, e2, iv_nat, iv_nat, h, ← iv_nat]
  congr 1
theorem iv_and1w {a : Int} (ha : 0 ≤ a ∧ a < 4294967296) : iv a &&& iv 1 = iv (a % 2) := by
  have e1 := nt ha.1
  have h := pk_andN (n := a.toNat) (by omega) (m := 1) 1 (by decide)
  rw [e1, iv_nat, show iv 1 = 1 by decide, h, ← iv_nat]
  congr 1
theorem iv_shl1 {k : Int} (hk : 0 ≤ k ∧ k < 32) : iv 1 <<< (iv k &&& 31) = iv (2 ^ k.toNat) := by
  have e2 := nt hk.1
  have h : ∀ j, j < 32 → (nI 1 <<< (nI j &&& 31)) = nI (2 ^ j) := by decide +kernel
  have h2 := h k.toNat (by omega)
  rw [e2, show iv 1 = nI 1 by decide, iv_nat, h2, ← iv_nat, pw_cast]
  congr 1
theorem nI_or (a b : Nat) : nI a ||| nI b = nI (a ||| b) := by
  apply Int32.toBitVec_inj.mp
  rw [Int32.toBitVec_or]
  show BitVec.ofNat 32 a ||| BitVec.ofNat 32 b = BitVec.ofNat 32 (a ||| b)
  apply BitVec.eq_of_toNat_eq
  rw [BitVec.toNat_or, BitVec.toNat_ofNat, BitVec.toNat_ofNat, BitVec.toNat_ofNat, Nat.or_mod_two_pow]
theorem nI_and (a b : Nat) : nI a &&& nI b = nI (a &&& b) := by
  apply Int32.toBitVec_inj.mp
  rw [Int32.toBitVec_and]
  show BitVec.ofNat 32 a &&& BitVec.ofNat 32 b = BitVec.ofNat 32 (a &&& b)
  apply BitVec.eq_of_toNat_eq
  rw [BitVec.toNat_and, BitVec.toNat_ofNat, BitVec.toNat_ofNat, BitVec.toNat_ofNat, Nat.and_mod_two_pow]
theorem iv_or {a k : Int} (ha : 0 ≤ a) (h : a < 2 ^ k.toNat) : iv a ||| iv (2 ^ k.toNat) = iv (a + 2 ^ k.toNat) := by
  have e1 := nt ha
  have h2 := pw_lt h ha
  rw [← pw_cast, iv_nat, e1, iv_nat, nI_or, or_pow h2, ← Int.natCast_add, iv_nat]
def cmpI (a b : Int) : Int := if b < a then 1 else if a = b then 0 else -1
theorem lg_cmp_jv {a b : Int} (ha : rgj a) (hb : rgj b) : lg_cmp (jv a) (jv b) = iv (cmpI a b) := by
  unfold lg_cmp cmpI
  have h1 : jv a > jv b ↔ b < a := by rw [gt_iff_lt, Int64.lt_iff_toInt_lt, jv_toInt ha, jv_toInt hb]
  have h2 : jv a = jv b ↔ a = b := ⟨jv_inj ha hb, fun h => by rw [h]⟩
  by_cases c1 : b < a
  · rw [if_pos (h1.mpr c1), if_pos c1]; decide
  · rw [if_neg (fun z => c1 (h1.mp z)), if_neg c1]
    by_cases c2 : a = b
    · rw [if_pos (h2.mpr c2), if_pos c2]; decide
    · rw [if_neg (fun z => c2 (h2.mp z)), if_neg c2]; decide
/-- the bit k of w -/
def BT (w k : Int) : Prop := w / 2 ^ k.toNat % 2 = 1
/-- the word of the first k bits: those of P -/
noncomputable def BW (P : Int → Prop) : Nat → Int
  | 0 => 0
  | k + 1 => BW P k + (if tb (P k) = true then 2 ^ k else 0)
theorem BW.bd (P : Int → Prop) : ∀ k : Nat, 0 ≤ BW P k ∧ BW P k < 2 ^ k := by
  intro k
  induction k with
  | zero => show (0 : Int) ≤ 0 ∧ (0 : Int) < 1; omega
  | succ k ih =>
    have h := pw_succ k
    have h2 := pw_pos k
    show 0 ≤ BW P k + (if tb (P k) = true then 2 ^ k else 0) ∧ BW P k + (if tb (P k) = true then 2 ^ k else 0) < 2 ^ (k + 1)
    rw [h]
    split <;> omega
theorem BW.succ {P : Int → Prop} {k : Int} (h : 0 ≤ k) : BW P (k + 1).toNat = BW P k.toNat + (if tb (P k) = true then 2 ^ k.toNat else 0) := by
  rw [show (k + 1).toNat = k.toNat + 1 by omega]
  show BW P k.toNat + (if tb (P k.toNat) = true then 2 ^ k.toNat else 0) = _
  rw [show ((k.toNat : Nat) : Int) = k by omega]
theorem BW.bit (P : Int → Prop) : ∀ (n k : Nat), k < n → (BW P n / 2 ^ k % 2 = 1 ↔ P k) := by
  intro n
  induction n with
  | zero => intro k h; omega
  | succ n ih =>
    intro k hk
    have hb := BW.bd P n
    have hp := pw_pos n
    show (BW P n + (if tb (P n) = true then 2 ^ n else 0)) / 2 ^ k % 2 = 1 ↔ P k
    by_cases e : k = n
    · subst e
      by_cases c : P k
      · rw [if_pos (tb_t c)]
        have h1 : (BW P k + 2 ^ k) / 2 ^ k = 1 := by
          rw [Int.add_ediv_of_dvd_right (Int.dvd_refl _), Int.ediv_self (by omega), Int.ediv_eq_zero_of_lt hb.1 hb.2]
          rfl
        rw [h1]
        exact ⟨fun _ => c, fun _ => rfl⟩
      · rw [tb_f c, if_neg (by decide), Int.add_zero, Int.ediv_eq_zero_of_lt hb.1 hb.2]
        exact ⟨fun z => absurd z (by decide), fun z => absurd z c⟩
    · have hlt : k < n := by omega
      have h1 : (BW P n + (if tb (P n) = true then 2 ^ n else 0)) / 2 ^ k % 2 = BW P n / 2 ^ k % 2 := by
        split
        · obtain ⟨d, hd⟩ : ∃ d, n = k + 1 + d := ⟨n - (k + 1), by omega⟩
          have hq : (2 : Int) ^ n = 2 ^ k * (2 * 2 ^ d) := by
            rw [hd, Int.pow_add, Int.pow_succ, Int.mul_assoc]
          rw [hq, Int.add_mul_ediv_left _ _ (by have := pw_pos k; omega)]
          omega
        · rw [Int.add_zero]
      rw [h1]
      exact ih k hlt
theorem BW.BT {P : Int → Prop} {n : Nat} {k : Int} (h0 : 0 ≤ k) (h : k < n) : BT (BW P n) k ↔ P k := by
  have h1 := BW.bit P n k.toNat (by omega)
  rw [show ((k.toNat : Nat) : Int) = k by omega] at h1
  exact h1
theorem ediv_bd {a B : Int} (h : 0 ≤ a ∧ a < B) (k : Nat) : 0 ≤ a / 2 ^ k ∧ a / 2 ^ k < B := ⟨Int.ediv_nonneg h.1 (Int.pow_nonneg (by omega)), Int.lt_of_le_of_lt (Int.ediv_le_self _ h.1) h.2⟩
theorem cmpI_z (a b : Int) : (cmpI a b = 0 ↔ a = b) ∧ -1 ≤ cmpI a b ∧ cmpI a b ≤ 1 := by
  unfold cmpI
  split
  · omega
  · split <;> omega
