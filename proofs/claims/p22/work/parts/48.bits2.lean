/-! the word of a rhythm, second by second; the empty harbour -/
def LIT (D : Nat → Int) (c : Nat) (u : Int) : Prop := litF (DP D) c 0 u = true
theorem sf_nn {d : Int → Int} : ∀ (j : Nat) (b : Int), (∀ t : Int, b ≤ t → t < b + j → 0 ≤ d t) → 0 ≤ sf d j b := by
  intro j
  induction j with
  | zero => intro b _; exact Int.le_refl 0
  | succ j ih =>
    intro b h
    have h1 := h b (by omega) (by omega)
    have h2 := ih (b + 1) (fun t a c => h t (by omega) (by omega))
    show 0 ≤ d b + sf d j (b + 1)
    omega
theorem sf_snoc2 (d : Int → Int) : ∀ (j : Nat) (b : Int), sf d (j + 1) b = sf d j b + d (b + j) := by
  intro j
  induction j with
  | zero => intro b; show d b + 0 = 0 + d (b + 0); rw [Int.add_zero, Int.add_zero, Int.zero_add]
  | succ j ih =>
    intro b
    show d b + sf d (j + 1) (b + 1) = d b + sf d j (b + 1) + d (b + (j + 1 : Nat))
    rw [ih (b + 1), show b + 1 + (j : Int) = b + (j + 1 : Nat) by omega, Int.add_assoc]
theorem litF_skip {d : Int → Int} : ∀ (j f : Nat) (b r : Int), 0 ≤ r → (∀ t : Int, b ≤ t → t < b + j → 0 ≤ d t) → litF d (j + f) b (sf d j b + r) = litF d f (b + j) r := by
  intro j
  induction j with
  | zero => intro f b r _ _; show litF d (0 + f) b (0 + r) = litF d f (b + 0) r; rw [Nat.zero_add, Int.zero_add, Int.add_zero]
  | succ j ih =>
    intro f b r hr h
    have h2 := sf_nn j (b + 1) (fun t a c => h t (by omega) (by omega))
    rw [show j + 1 + f = (j + f) + 1 by omega]
    show (if d b + sf d j (b + 1) + r < d b then decide (b % 2 = 0) else litF d (j + f) (b + 1) (d b + sf d j (b + 1) + r - d b)) = _
    rw [if_neg (by omega), show d b + sf d j (b + 1) + r - d b = sf d j (b + 1) + r by omega, ih f (b + 1) r hr (fun t a c => h t (by omega) (by omega)), show b + 1 + (j : Int) = b + (j + 1 : Nat) by omega]
theorem litF_at {d : Int → Int} {c : Nat} (h : ∀ t : Int, 0 ≤ t → t < c → 0 ≤ d t) {i k : Int} (hi : 0 ≤ i ∧ i < c) (hk : 0 ≤ k ∧ k < d i) : litF d c 0 (sf d i.toNat 0 + k) = decide (i % 2 = 0) := by
  have h1 := litF_skip (d := d) i.toNat (c - i.toNat) 0 k hk.1 (fun t a b => h t a (by omega))
  rw [show i.toNat + (c - i.toNat) = c by omega, show (0 : Int) + (i.toNat : Int) = i by omega] at h1
  rw [h1, show c - i.toNat = (c - i.toNat - 1) + 1 by omega]
  show (if k < d i then decide (i % 2 = 0) else _) = _
  rw [if_pos hk.2]
theorem BITS.of {D : Nat → Int} {c : Nat} {pe : Int} (h : 0 ≤ pe ∧ pe ≤ 60) : BITS D c pe (BW (LIT D c) pe.toNat) := by
  refine ⟨⟨(BW.bd _ _).1, Int.lt_of_lt_of_le (BW.bd _ _).2 (pw_mono (by omega))⟩, fun u a b => ?_⟩
  exact BW.BT a (by omega)
theorem RX.empty {I : LK} {ε : EV} {x dr aP aL aT aC : Nat} {g : Nat → Int} {n : Nat → Int} {G : Nat → Nat → Int} (hn : n 0 = 0 ∧ n 1 = 0 ∧ n 2 = 0 ∧ n 3 = 0 ∧ n 4 = 0) (hx : I 0 x (oLR dr 0 aP aL aT aC)) (hd : I 1 dr (eI ε 6 g)) (hg : ∀ k, rg (g k)) (h2 : I 2 aP (oAL 0 (ε.2.2.2 0) 0)) (h3 : I 3 aL (oAL 0 (ε.2.2.2 0) 0)) (h4 : I 4 aT (oAL 0 (ε.2.2.2 0) 0)) (h5 : I 5 aC (oAL 0 (ε.2.2.2 0) 0)) : RX I ε x n G := by
  obtain ⟨n0, n1, n2, n3, n4⟩ := hn
  have nil : ∀ {r re : Int} {al : Nat} {k : Int}, k = 0 → I r al (oAL 0 (ε.2.2.2 0) 0) → LISTR I ε r re al k (fun _ => 0) := fun hk h => by
    rw [hk]
    exact ⟨0, _, h, Or.inl ⟨rfl, rfl⟩⟩
  refine ⟨dr, aP, aL, aT, aC, g, fun _ => 0, fun _ => 0, fun _ => 0, fun _ => 0, by rw [n0]; exact hx, ⟨hd, fun k a b => ?_, hg⟩, nil n1 h2, nil n2 h3, nil n3 h4, nil n4 h5, fun q a b => ?_, fun q a b => ?_, fun q a b => ?_, fun q a b => ?_⟩ <;> omega
