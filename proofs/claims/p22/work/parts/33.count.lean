/-! how many bits a word has: what Integer.bitCount computes -/
def pcN : Nat → Nat → Nat
  | 0, _ => 0
  | k + 1, n => pcN k n + n / 2 ^ k % 2
theorem pcN_split (b h : Nat) (hb : b < 256) : ∀ k, pcN (8 + k) (h * 256 + b) = pcN 8 b + pcN k h := by
  intro k
  induction k with
  | zero =>
    show pcN 8 (h * 256 + b) = pcN 8 b + 0
    have e : ∀ i, i < 8 → (h * 256 + b) / 2 ^ i % 2 = b / 2 ^ i % 2 := by
      intro i hi
      have hi' : i = 0 ∨ i = 1 ∨ i = 2 ∨ i = 3 ∨ i = 4 ∨ i = 5 ∨ i = 6 ∨ i = 7 := by omega
      rcases hi' with rfl | rfl | rfl | rfl | rfl | rfl | rfl | rfl <;> omega
    simp only [pcN, e 0 (by omega), e 1 (by omega), e 2 (by omega), e 3 (by omega), e 4 (by omega), e 5 (by omega), e 6 (by omega), e 7 (by omega), Nat.add_zero]
  | succ k ih =>
    show pcN (8 + k) (h * 256 + b) + (h * 256 + b) / 2 ^ (8 + k) % 2 = pcN 8 b + (pcN k h + h / 2 ^ k % 2)
    have e : (h * 256 + b) / 2 ^ (8 + k) = h / 2 ^ k := by
      rw [Nat.pow_add, ← Nat.div_div_eq_div_mul]
      congr 1
      omega
    rw [ih, e]
    omega
theorem and_split (X y M m : Nat) (hy : y < 256) (hm : m < 256) : (X * 256 + y) &&& (M * 256 + m) = (X &&& M) * 256 + (y &&& m) := by
  have h1 : y &&& m < 2 ^ 8 := Nat.and_lt_two_pow y (show m < 2 ^ 8 by omega)
  apply Nat.eq_of_testBit_eq
  intro i
  rw [Nat.testBit_and, Nat.mul_comm X, Nat.mul_comm M, Nat.mul_comm (X &&& M)]
  rw [show (256 : Nat) = 2 ^ 8 from rfl, Nat.testBit_two_pow_mul_add X (show y < 2 ^ 8 by omega) i, Nat.testBit_two_pow_mul_add M (show m < 2 ^ 8 by omega) i, Nat.testBit_two_pow_mul_add (X &&& M) h1 i]
  by_cases hi : i < 8
  · simp only [hi, if_true, Nat.testBit_and]
  · simp only [hi, if_false, Nat.testBit_and]
def a1 (b : Nat) : Nat := b - (b / 2 &&& 85)
def a2 (b : Nat) : Nat := (b &&& 51) + (b / 4 &&& 51)
def a3 (b : Nat) : Nat := (b + b / 16) &&& 15
theorem a1_e : ∀ b, b < 256 → ∀ e, e < 2 → ((b / 2 + 128 * e) &&& 85) = (b / 2 &&& 85) ∧ (b / 2 &&& 85) ≤ b := by decide +kernel
theorem a1_lt : ∀ b, b < 256 → a1 b < 256 := by decide +kernel
theorem a2_e : ∀ b, b < 256 → ∀ e, e < 4 → ((b / 4 + 64 * e) &&& 51) = (b / 4 &&& 51) := by decide +kernel
theorem a2_lt : ∀ b, b < 256 → a2 (a1 b) ≤ 68 ∧ a2 (a1 b) % 16 ≤ 4 := by decide +kernel
theorem a3_e : ∀ b, b < 69 → ∀ e, e < 5 → ((b + b / 16 + 16 * e) &&& 15) = a3 b := by decide +kernel
theorem a3_pc : ∀ b, b < 256 → a3 (a2 (a1 b)) = pcN 8 b ∧ pcN 8 b ≤ 8 := by decide +kernel
theorem s1 {h b M : Nat} (hb : b < 256) (hM : (h / 2 &&& M) ≤ h) : (h * 256 + b) - ((h * 256 + b) / 2 &&& (M * 256 + 85)) = (h - (h / 2 &&& M)) * 256 + a1 b := by
  have e : (h * 256 + b) / 2 = (h / 2) * 256 + (b / 2 + 128 * (h % 2)) := by omega
  obtain ⟨e1, e2⟩ := a1_e b hb (h % 2) (by omega)
  rw [e, and_split _ _ _ _ (by omega) (by omega), e1]
  unfold a1
  omega
theorem s1' {h b M : Nat} (hb : b < 256) (hM : (h / 2 &&& M) ≤ h) : ((h * 256 + b) / 2 &&& (M * 256 + 85)) ≤ h * 256 + b := by
  have e : (h * 256 + b) / 2 = (h / 2) * 256 + (b / 2 + 128 * (h % 2)) := by omega
  obtain ⟨e1, e2⟩ := a1_e b hb (h % 2) (by omega)
  rw [e, and_split _ _ _ _ (by omega) (by omega), e1]
  omega
theorem s2 {h b M : Nat} (hb : b < 256) : ((h * 256 + b) &&& (M * 256 + 51)) + ((h * 256 + b) / 4 &&& (M * 256 + 51)) = ((h &&& M) + (h / 4 &&& M)) * 256 + a2 b := by
  have e : (h * 256 + b) / 4 = (h / 4) * 256 + (b / 4 + 64 * (h % 4)) := by omega
  have e1 := a2_e b hb (h % 4) (by omega)
  rw [e, and_split _ _ _ _ hb (by omega), and_split _ _ _ _ (by omega) (by omega), e1]
  unfold a2
  omega
theorem s3 {h b M : Nat} (hb : b < 69) (hh : h % 16 ≤ 4) : (((h * 256 + b) + (h * 256 + b) / 16) &&& (M * 256 + 15)) = ((h + h / 16) &&& M) * 256 + a3 b := by
  have e : (h * 256 + b) + (h * 256 + b) / 16 = (h + h / 16) * 256 + (b + b / 16 + 16 * (h % 16)) := by omega
  have e1 := a3_e b hb (h % 16) (by omega)
  rw [e, and_split _ _ _ _ (by omega) (by omega), e1]
def bcN (n : Nat) : Nat :=
  let n1 := n - (n / 2 &&& 1431655765)
  let n2 := (n1 &&& 858993459) + (n1 / 4 &&& 858993459)
  let n3 := (n2 + n2 / 16) &&& 252645135
  let n4 := n3 + n3 / 256
  let n5 := n4 + n4 / 65536
  n5 % 64
theorem s4 {x0 x1 x2 x3 : Nat} (h0 : x0 ≤ 8) (h1 : x1 ≤ 8) (h2 : x2 ≤ 8) (h3 : x3 ≤ 8) : (((x3 * 256 + x2) * 256 + x1) * 256 + x0 + (((x3 * 256 + x2) * 256 + x1) * 256 + x0) / 256 + (((x3 * 256 + x2) * 256 + x1) * 256 + x0 + (((x3 * 256 + x2) * 256 + x1) * 256 + x0) / 256) / 65536) % 64 = x0 + (x1 + (x2 + x3)) := by
  have e1 : (((x3 * 256 + x2) * 256 + x1) * 256 + x0) / 256 = (x3 * 256 + x2) * 256 + x1 := by omega
  rw [e1]
  have e2 : (((x3 * 256 + x2) * 256 + x1) * 256 + x0 + ((x3 * 256 + x2) * 256 + x1)) / 65536 = x3 * 256 + (x2 + x3) := by
    have e0 : ((x3 * 256 + x2) * 256 + x1) * 256 + x0 + ((x3 * 256 + x2) * 256 + x1) = 65536 * (x3 * 256 + (x2 + x3)) + (256 * (x1 + x2) + (x0 + x1)) := by omega
    rw [e0, Nat.mul_add_div (by decide), Nat.div_eq_of_lt (by omega), Nat.add_zero]
  rw [e2]
  have e3 : ((x3 * 256 + x2) * 256 + x1) * 256 + x0 + ((x3 * 256 + x2) * 256 + x1) + (x3 * 256 + (x2 + x3)) = 64 * (x3 * 262144 + x2 * 1024 + x1 * 4 + x3 * 1024 + x2 * 4 + x3 * 4) + (x0 + (x1 + (x2 + x3))) := by omega
  rw [e3]
  omega
theorem bcN_eq {n : Nat} (hn : n < 4294967296) : (n / 2 &&& 1431655765) ≤ n ∧ bcN n = pcN 32 n := by
  obtain ⟨b0, b1, b2, b3, h0, h1, h2, h3, e⟩ : ∃ b0 b1 b2 b3 : Nat, b0 < 256 ∧ b1 < 256 ∧ b2 < 256 ∧ b3 < 256 ∧ n = ((b3 * 256 + b2) * 256 + b1) * 256 + b0 :=
    ⟨n % 256, n / 256 % 256, n / 65536 % 256, n / 16777216, by omega, by omega, by omega, by omega, by omega⟩
  have q3 : (b3 / 2 &&& 85) ≤ b3 := (a1_e b3 h3 0 (by omega)).2
  have q2 := s1' (h := b3) (b := b2) (M := 85) h2 q3
  have q1 := s1' (h := b3 * 256 + b2) (b := b1) (M := 85 * 256 + 85) h1 q2
  have q0 := s1' (h := (b3 * 256 + b2) * 256 + b1) (b := b0) (M := (85 * 256 + 85) * 256 + 85) h0 q1
  refine ⟨by rw [e]; exact q0, ?_⟩
  have r1 : n - (n / 2 &&& 1431655765) = ((a1 b3 * 256 + a1 b2) * 256 + a1 b1) * 256 + a1 b0 := by
    rw [e]
    rw [s1 (h := (b3 * 256 + b2) * 256 + b1) (b := b0) (M := (85 * 256 + 85) * 256 + 85) h0 q1, s1 (h := b3 * 256 + b2) (b := b1) (M := 85 * 256 + 85) h1 q2, s1 (h := b3) (b := b2) (M := 85) h2 q3]
    rfl
  have r2 : ((((a1 b3 * 256 + a1 b2) * 256 + a1 b1) * 256 + a1 b0) &&& 858993459) + ((((a1 b3 * 256 + a1 b2) * 256 + a1 b1) * 256 + a1 b0) / 4 &&& 858993459) = ((a2 (a1 b3) * 256 + a2 (a1 b2)) * 256 + a2 (a1 b1)) * 256 + a2 (a1 b0) := by
    rw [show (858993459 : Nat) = ((51 * 256 + 51) * 256 + 51) * 256 + 51 from rfl, s2 (a1_lt b0 h0), s2 (a1_lt b1 h1), s2 (a1_lt b2 h2)]
    rfl
  obtain ⟨p0, p0'⟩ := a2_lt b0 h0
  obtain ⟨p1, p1'⟩ := a2_lt b1 h1
  obtain ⟨p2, p2'⟩ := a2_lt b2 h2
  obtain ⟨p3, p3'⟩ := a2_lt b3 h3
  have r3 : ((((a2 (a1 b3) * 256 + a2 (a1 b2)) * 256 + a2 (a1 b1)) * 256 + a2 (a1 b0)) + (((a2 (a1 b3) * 256 + a2 (a1 b2)) * 256 + a2 (a1 b1)) * 256 + a2 (a1 b0)) / 16) &&& 252645135 = ((pcN 8 b3 * 256 + pcN 8 b2) * 256 + pcN 8 b1) * 256 + pcN 8 b0 := by
    rw [show (252645135 : Nat) = ((15 * 256 + 15) * 256 + 15) * 256 + 15 from rfl, s3 (by omega) (by omega), s3 (by omega) (by omega), s3 (by omega) (by omega), (a3_pc b0 h0).1, (a3_pc b1 h1).1, (a3_pc b2 h2).1]
    show (((((a2 (a1 b3) + a2 (a1 b3) / 16) &&& 15) * 256) + _) * 256 + _) * 256 + _ = _
    rw [show ((a2 (a1 b3) + a2 (a1 b3) / 16) &&& 15) = pcN 8 b3 from (a3_pc b3 h3).1]
  have t0 := (a3_pc b0 h0).2
  have t1 := (a3_pc b1 h1).2
  have t2 := (a3_pc b2 h2).2
  have t3 := (a3_pc b3 h3).2
  have hp : pcN 32 n = pcN 8 b0 + (pcN 8 b1 + (pcN 8 b2 + pcN 8 b3)) := by
    rw [e, pcN_split b0 _ h0 24, pcN_split b1 _ h1 16, pcN_split b2 _ h2 8]
  unfold bcN
  dsimp only
  rw [r1, r2, r3, hp]
  exact s4 t0 t1 t2 t3
theorem CNT_pc {w : Int} (hw : 0 ≤ w) : ∀ k : Nat, CNT (BT w) k = (pcN k w.toNat : Int) := by
  intro k
  induction k with
  | zero => rfl
  | succ k ih =>
    show CNT (BT w) k + bz (tb (BT w k)) = ((pcN k w.toNat + w.toNat / 2 ^ k % 2 : Nat) : Int)
    have e : ((w.toNat / 2 ^ k % 2 : Nat) : Int) = w / 2 ^ k % 2 := by
      rw [Int.natCast_emod, Int.natCast_ediv, pw_cast, ← nt hw]
      rfl
    rw [ih, Int.natCast_add, e]
    have hm := Int.emod_nonneg (w / 2 ^ k) (show (2 : Int) ≠ 0 by omega)
    have hn := Int.emod_lt_of_pos (w / 2 ^ k) (show (0 : Int) < 2 by omega)
    have hb : BT w k ↔ w / 2 ^ k % 2 = 1 := Iff.rfl
    by_cases c : w / 2 ^ k % 2 = 1
    · rw [tb_t (hb.mpr c), c]; rfl
    · rw [tb_f (fun z => c (hb.mp z)), show w / 2 ^ k % 2 = 0 by omega]; rfl
theorem CNT_cong {P Q : Int → Prop} : ∀ k : Nat, (∀ u : Int, 0 ≤ u → u < k → (P u ↔ Q u)) → CNT P k = CNT Q k := by
  intro k
  induction k with
  | zero => intro _; rfl
  | succ k ih =>
    intro h
    show CNT P k + bz (tb (P k)) = CNT Q k + bz (tb (Q k))
    rw [ih (fun u h1 h2 => h u h1 (by omega))]
    have h3 := h k (by omega) (by omega)
    by_cases c : P k
    · rw [tb_t c, tb_t (h3.mp c)]
    · rw [tb_f c, tb_f (fun z => c (h3.mpr z))]
theorem BW_and (P Q : Int → Prop) (k : Nat) : iv (BW P k) &&& iv (BW Q k) = iv (BW (fun u => P u ∧ Q u) k) := by
  have hp := BW.bd P k
  have hq := BW.bd Q k
  have hr := BW.bd (fun u => P u ∧ Q u) k
  rw [nt hp.1, nt hq.1, nt hr.1, iv_nat, iv_nat, iv_nat, nI_and]
  congr 1
  have key : ∀ (S : Int → Prop) (i : Nat), i < k → ((BW S k).toNat.testBit i = true ↔ S i) := by
    intro S i hi
    have h1 := BW.bit S k i hi
    have h0 := BW.bd S k
    rw [Nat.testBit_eq_decide_div_mod_eq, decide_eq_true_iff, ← h1]
    have e : ((((BW S k).toNat / 2 ^ i % 2 : Nat)) : Int) = BW S k / 2 ^ i % 2 := by
      rw [Int.natCast_emod, Int.natCast_ediv, pw_cast, ← nt h0.1]
      rfl
    omega
  have big : ∀ (S : Int → Prop) (i : Nat), k ≤ i → (BW S k).toNat.testBit i = false := by
    intro S i hi
    have h0 := BW.bd S k
    exact Nat.testBit_lt_two_pow (Nat.lt_of_lt_of_le (pw_lt h0.2 h0.1) (Nat.pow_le_pow_right (by decide) hi))
  apply Nat.eq_of_testBit_eq
  intro i
  rw [Nat.testBit_and]
  by_cases hi : i < k
  · apply Bool.eq_iff_iff.mpr
    rw [Bool.and_eq_true, key P i hi, key Q i hi, key (fun u => P u ∧ Q u) i hi]
  · rw [big P i (by omega), big Q i (by omega), big _ i (by omega)]
    rfl
/-- Integer.bitCount, as its code says it -/
def BCx (x : Int32) : Int32 :=
  let u := fun (a k : Int32) => (a.toUInt32 >>> (k.toUInt32 &&& Int32.toUInt32 31)).toInt32
  let x1 := x - (u x (iv 1) &&& iv 1431655765)
  let x2 := (x1 &&& iv 858993459) + (u x1 (iv 2) &&& iv 858993459)
  let x3 := (x2 + u x2 (iv 4)) &&& iv 252645135
  let x4 := x3 + u x3 (iv 8)
  let x5 := x4 + u x4 (iv 16)
  x5 &&& iv 63
theorem BCx_nI {n : Nat} (hn : n < 4294967296) : BCx (nI n) = nI (bcN n) := by
  have u : ∀ (a k : Nat), a < 4294967296 → k < 32 → ((nI a).toUInt32 >>> ((iv k).toUInt32 &&& Int32.toUInt32 31)).toInt32 = nI (a / 2 ^ k) := by
    intro a k ha hk
    have h := iv_ushr (a := a) (k := k) ⟨by omega, by omega⟩ ⟨by omega, by omega⟩
    rw [iv_nat] at h
    rw [h, show ((k : Int)).toNat = k by omega, ← iv_nat, Int.natCast_ediv, pw_cast]
  have g1 : iv 1431655765 = nI 1431655765 := by decide
  have g2 : iv 858993459 = nI 858993459 := by decide
  have g3 : iv 252645135 = nI 252645135 := by decide
  have g4 : iv 63 = nI 63 := by decide
  have hle := (bcN_eq hn).1
  have l1 : ∀ a b : Nat, (a &&& b) ≤ b := fun a b => Nat.and_le_right
  unfold BCx bcN
  dsimp only
  rw [g1, g2, g3, g4]
  rw [show iv 1 = iv ((1 : Nat) : Int) from rfl, show iv 2 = iv ((2 : Nat) : Int) from rfl, show iv 4 = iv ((4 : Nat) : Int) from rfl, show iv 8 = iv ((8 : Nat) : Int) from rfl, show iv 16 = iv ((16 : Nat) : Int) from rfl]
  rw [u n 1 hn (by decide), nI_and, show (2 : Nat) ^ 1 = 2 from rfl, pk_sub hle]
  generalize hm1 : n - (n / 2 &&& 1431655765) = m1
  have b1 : m1 < 4294967296 := by omega
  rw [u m1 2 b1 (by decide), nI_and, nI_and, nI_add, show (2 : Nat) ^ 2 = 4 from rfl]
  generalize hm2 : (m1 &&& 858993459) + (m1 / 4 &&& 858993459) = m2
  have b2 : m2 < 4294967296 := by have := l1 m1 858993459; have := l1 (m1 / 4) 858993459; omega
  rw [u m2 4 b2 (by decide), nI_add, nI_and, show (2 : Nat) ^ 4 = 16 from rfl]
  generalize hm3 : (m2 + m2 / 16 &&& 252645135) = m3
  have b3 : m3 < 4294967296 := by have := l1 (m2 + m2 / 16) 252645135; omega
  have b3' : m3 ≤ 252645135 := by have := l1 (m2 + m2 / 16) 252645135; omega
  rw [u m3 8 b3 (by decide), nI_add, show (2 : Nat) ^ 8 = 256 from rfl]
  generalize hm4 : m3 + m3 / 256 = m4
  have b4 : m4 < 4294967296 := by omega
  rw [u m4 16 b4 (by decide), nI_add, show (2 : Nat) ^ 16 = 65536 from rfl, nI_and]
  congr 1
  exact Nat.and_two_pow_sub_one_eq_mod (m4 + m4 / 65536) 6
theorem BCx_eq {w : Int} (hw : 0 ≤ w ∧ w < 4294967296) : BCx (iv w) = iv (CNT (BT w) 32) := by
  have h := BCx_nI (n := w.toNat) (by omega)
  rw [← iv_nat, ← nt hw.1] at h
  rw [h, (bcN_eq (n := w.toNat) (by omega)).2, CNT_pc hw.1, iv_nat]
theorem BCx_BW (P : Int → Prop) : BCx (iv (BW P 32)) = iv (CNT P 32) := by
  have hb := BW.bd P 32
  rw [BCx_eq ⟨hb.1, hb.2⟩]
  congr 1
  exact CNT_cong 32 (fun u h1 h2 => BW.BT h1 h2)
