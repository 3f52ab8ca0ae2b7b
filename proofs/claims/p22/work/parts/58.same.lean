/-! the class's words and the reference's say the same: places -/
theorem WITHIN_iff {a b r se : Int} : WITHIN a b r se ↔ (((-r ≤ a ∧ a ≤ r) ∧ -r ≤ b ∧ b ≤ r) ∧ (sectP a b < 0 ∨ se / 2 ^ (sectP a b).toNat % 2 = 1)) := by
  have h1 := ab_bd (a := a)
  have h2 := ab_bd (a := b)
  have h3 := sectP_bd a b
  unfold WITHIN
  constructor
  · rintro ⟨z1, z2⟩
    refine ⟨by omega, z2.imp (fun z => by omega) id⟩
  · rintro ⟨z1, z2⟩
    refine ⟨by omega, z2.imp (fun z => by omega) id⟩
theorem SE1_iff {G : Nat → Nat → Int} {i x y : Int} (h : (0 ≤ x ∧ x ≤ 31) ∧ 0 ≤ y ∧ y ≤ 31) : SE1 G i x y ↔ SEES G i x y := by
  unfold SE1 SEES
  constructor
  · rintro ⟨-, z⟩
    exact WITHIN_iff.mp z
  · intro z
    exact ⟨by omega, WITHIN_iff.mpr z⟩
theorem CNT.add (P : Int → Prop) (a : Nat) : ∀ b : Nat, CNT P (a + b) = CNT P a + CNT (fun u => P (a + u)) b := by
  intro b
  induction b with
  | zero => show CNT P a = CNT P a + 0; omega
  | succ b ih =>
    show CNT P (a + b) + bz (tb (P ((a + b : Nat) : Int))) = CNT P a + (CNT (fun u => P (a + u)) b + bz (tb (P (a + b))))
    rw [ih, show ((a + b : Nat) : Int) = (a : Int) + b by omega]
    omega
theorem SUMF_congr {f g : Int → Int} : ∀ t : Nat, (∀ u : Int, 0 ≤ u → u < t → f u = g u) → SUMF f t = SUMF g t := by
  intro t
  induction t with
  | zero => intro _; rfl
  | succ t ih =>
    intro h
    show SUMF f t + f t = SUMF g t + g t
    rw [ih (fun u a b => h u a (by omega)), h t (by omega) (by omega)]
theorem CNT.congr {P Q : Int → Prop} : ∀ t : Nat, (∀ u : Int, 0 ≤ u → u < t → (P u ↔ Q u)) → CNT P t = CNT Q t := by
  intro t
  induction t with
  | zero => intro _; rfl
  | succ t ih =>
    intro h
    show CNT P t + bz (tb (P t)) = CNT Q t + bz (tb (Q t))
    rw [ih (fun u a b => h u a (by omega)), propext (h t (by omega) (by omega))]
theorem CNT.rows (P : Int → Prop) : ∀ t : Nat, CNT P (32 * t) = SUMF (fun row => CNT (fun u => P (32 * row + u)) 32) t := by
  intro t
  induction t with
  | zero => rfl
  | succ t ih =>
    rw [show 32 * (t + 1) = 32 * t + 32 by omega, CNT.add, ih]
    show _ = SUMF _ t + CNT (fun u => P (32 * (t : Int) + u)) 32
    rw [show ((32 * t : Nat) : Int) = 32 * (t : Int) by omega]
theorem SH1_eq (G : Nat → Nat → Int) (i j : Int) : SH1 G i j = COMM G i j := by
  unfold COMM SH1 SHARE
  rw [show 1024 = 32 * 32 from rfl, CNT.rows]
  refine SUMF_congr 32 (fun row a b => CNT.congr 32 (fun u c d => ?_))
  unfold BOTHS
  rw [show (32 * row + u) % 32 = u by omega, show (32 * row + u) / 32 = row by omega, ← SE1_iff ⟨by omega, by omega⟩, ← SE1_iff ⟨by omega, by omega⟩]
  unfold SE1
  constructor
  · exact fun z => ⟨⟨by omega, z.1⟩, ⟨by omega, z.2⟩⟩
  · exact fun z => ⟨z.1.2, z.2.2⟩
theorem SUMF_add {f g : Int → Int} : ∀ t : Nat, SUMF (fun u => f u + g u) t = SUMF f t + SUMF g t := by
  intro t
  induction t with
  | zero => rfl
  | succ t ih =>
    show SUMF _ t + (f t + g t) = (SUMF f t + f t) + (SUMF g t + g t)
    rw [ih]
    omega
theorem SUMF_bz {P : Int → Prop} : ∀ t : Nat, SUMF (fun u => bz (tb (P u))) t = CNT P t := by
  intro t
  induction t with
  | zero => rfl
  | succ t ih =>
    show SUMF _ t + bz (tb (P t)) = CNT P t + bz (tb (P t))
    rw [ih]
/-- the pairs, told by the earlier one or by the later one -/
theorem CLC_eq {P Q : Int → Int → Prop} : ∀ m : Nat, (∀ i k : Int, 0 ≤ i → i < k → k < m → (P i k ↔ Q k i)) → SUMF (fun i => CNT (fun u => i < u ∧ P i u) m) m = CLS Q m := by
  intro m
  induction m with
  | zero => intro _; rfl
  | succ m ih =>
    intro h
    show SUMF (fun i => CNT (fun u => i < u ∧ P i u) m + bz (tb (i < (m : Int) ∧ P i m))) m + CNT (fun u => (m : Int) < u ∧ P m u) (m + 1) = CLS Q m + CNT (Q m) m
    rw [SUMF_add, ih (fun i k a b c => h i k a b (by omega)), SUMF_bz, CNT.none (P := fun u => (m : Int) < u ∧ P m u) (fun u a b z => by have z1 := z.1; omega), CNT.congr m (P := fun i => i < (m : Int) ∧ P i m) (Q := Q m) (fun u a b => ⟨fun z => (h u m a b (by omega)).mp z.2, fun z => ⟨b, (h u m a b (by omega)).mpr z⟩⟩), Int.add_zero]
