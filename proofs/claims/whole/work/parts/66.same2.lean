/-! the class's words and the reference's: rhythms, pilots -/
theorem LQ_pd {G : Nat → Nat → Int} {q : Int} : PD (LQ G q) (G 3 q.toNat) := fun u => by
  unfold LQ lt
  rw [Int.add_emod_right]
theorem LQ_md {G : Nat → Nat → Int} {q : Int} : ∀ u, LQ G q (u % G 3 q.toNat) = LQ G q u := fun u => by
  unfold LQ lt
  rw [Int.emod_emod]
theorem SC1_iff {G : Nat → Nat → Int} {q q2 : Int} (h : PQ G q) (h2 : PQ G q2) : SC1 G q q2 ↔ AK (LQ G q) (LQ G q2) (G 3 q.toNat) (G 3 q2.toNat) :=
  AK_secs LQ_pd LQ_pd (by have := h.per; omega) (by have := h2.per; omega) LQ_md LQ_md
theorem AK.symm {f g : Int → Bool} {pf pg : Int} (hf : PD f pf) (hg : PD g pg) (h1 : 0 < pf) (h2 : 0 < pg) (af : ∀ u, f (u % pf) = f u) (ag : ∀ u, g (u % pg) = g u) (h : AK f g pf pg) : AK g f pg pf := by
  obtain ⟨f1, f2, f3⟩ := retn_spec hf h1 af
  obtain ⟨g1, g2, g3⟩ := retn_spec hg h2 ag
  obtain ⟨e, t, t1, t2, t3⟩ := h
  have key : ∀ u, 0 ≤ u → f (u + t) = g u := fun u a => by
    have z := t3 (u % retn f pf) (Int.emod_nonneg u (by omega)) (Int.emod_lt_of_pos u f1)
    dsimp only at z
    have z2 : g (u % retn f pf) = g u := by rw [e]; exact g2.mod g1 u a
    rw [z2] at z
    rw [← z, ← f2.mod f1 (u + t) (by omega), ← f2.mod f1 (u % retn f pf + t) (by have := Int.emod_nonneg u (show retn f pf ≠ 0 by omega); omega), Int.emod_add_emod]
  refine ⟨e.symm, (retn f pf - t) % retn g pg, Int.emod_nonneg _ (by omega), Int.emod_lt_of_pos _ g1, fun u a b => ?_⟩
  dsimp only
  rw [← g2.mod g1 (u + (retn f pf - t) % retn g pg) (by have := Int.emod_nonneg (retn f pf - t) (show retn g pg ≠ 0 by omega); omega), Int.add_emod_emod, g2.mod g1 (u + (retn f pf - t)) (by omega), ← key (u + (retn f pf - t)) (by omega), show u + (retn f pf - t) + t = u + retn f pf by omega, f2]
theorem COMM_symm (G : Nat → Nat → Int) (i j : Int) : COMM G i j = COMM G j i := CNT.congr 1024 (fun u _ _ => and_comm)
theorem CLASH_symm {n : Nat → Int} {G : Nat → Nat → Int} {i j : Int} (hV : VPat n G) (hi : LV n G i) (hj : LV n G j) (h : CLASH G i j) : CLASH G j i := by
  have p1 := (hV.q hi.2.2.1.1 hi.2.2.1.2).per
  have p2 := (hV.q hj.2.2.1.1 hj.2.2.1.2).per
  exact ⟨AK.symm LQ_pd LQ_pd (by omega) (by omega) LQ_md LQ_md h.1, by rw [COMM_symm]; exact h.2⟩
theorem TK.congr {P Q : Int → Prop} : ∀ t : Nat, (∀ u : Int, 0 ≤ u → u < t → (P u ↔ Q u)) → TK P t = TK Q t := by
  intro t
  induction t with
  | zero => intro _; rfl
  | succ t ih =>
    intro h
    show (if tb (P t) = true then (if TK P t = -1 then (t : Int) else -2) else TK P t) = (if tb (Q t) = true then (if TK Q t = -1 then (t : Int) else -2) else TK Q t)
    rw [ih (fun u a b => h u a (by omega)), propext (h t (by omega) (by omega))]
theorem CAN2_iff {G : Nat → Nat → Int} {ch x y i fr many k : Int} (hxy : (0 ≤ x ∧ x ≤ 31) ∧ 0 ≤ y ∧ y ≤ 31) (hm : 0 ≤ many) (hs : -1 ≤ G 13 (12 * ch + k).toNat) : CAN2 G ch x y i fr many k ↔ CANB G ch x y i fr many k := by
  unfold CAN2 CANB COULD
  have hl : ∀ t : Int, LOOK (LQ G (G 13 (12 * ch + k).toNat)) (BW (LK1 G i fr) many.toNat) many t ↔ ALLb (fun u => LQ G (G 13 (12 * ch + k).toNat) (t + u) = ON G i (fr + u)) many := fun t => by
    unfold LOOK
    constructor
    · intro z u a b
      have h1 := z u a b
      dsimp only at h1 ⊢
      rw [BW.BT a (by omega)] at h1
      exact Bool.eq_iff_iff.mpr h1
    · intro z u a b
      have h1 := z u a b
      dsimp only at h1 ⊢
      rw [BW.BT a (by omega), h1]
      exact Iff.rfl
  constructor
  · rintro ⟨⟨a, b⟩, c⟩
    exact ⟨⟨by omega, (SE1_iff hxy).mp b⟩, (EXb_congr (fun u _ _ => hl u)).mp c⟩
  · rintro ⟨⟨a, b⟩, c⟩
    exact ⟨⟨by omega, (SE1_iff hxy).mpr b⟩, (EXb_congr (fun u _ _ => hl u)).mpr c⟩
/-- the clashes, once the phases tell the same as the periods -/
theorem CLC_cls {n : Nat → Int} {G : Nat → Nat → Int} (hV : VPat n G) (hL : VLam n G) (hph : ∀ i k : Int, 0 ≤ i → i < n 2 → 0 ≤ k → k < n 2 → (PH1 G (G 6 i.toNat) (G 6 k.toNat) ↔ AK (LQ G (G 6 i.toNat)) (LQ G (G 6 k.toNat)) (G 3 (G 6 i.toNat).toNat) (G 3 (G 6 k.toNat).toNat))) : CLC G (n 2).toNat (n 2).toNat = CLS (CLASH G) (n 2).toNat := by
  have h2 := hL.1
  refine CLC_eq (P := CLA G) (Q := CLASH G) (n 2).toNat (fun i k a b c => ?_)
  have hi := hL.i (q := i) a (by omega)
  have hk := hL.i (q := k) (by omega) (by omega)
  have e : CLA G i k ↔ CLASH G i k := by
    unfold CLA CLASH
    rw [hph i k a (by omega) (by omega) (by omega), SH1_eq]
  exact e.trans ⟨CLASH_symm hV hi hk, CLASH_symm hV hk hi⟩
