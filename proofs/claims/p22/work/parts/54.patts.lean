/-! a pattern more -/
theorem KEEP.ext {L L1 : List Nat} {f f1 : Nat → va_E} {ρ ρ1 : Nat → Int} (h : ∀ b, b ∈ L → b ∈ L1 ∧ f1 b = f b ∧ ρ1 b = ρ b) : KEEP L f ρ L1 f1 ρ1 (fun _ => False) := fun r a e h1 _ => by
  obtain ⟨k1, k2, k3⟩ := h a h1.1.1
  exact ⟨⟨k1, k2.trans h1.1.2⟩, k3.trans h1.2⟩
section PTS
variable {I : LK} {L L1 L2 : List Nat} {f f1 f2 : Nat → va_E} {ρ ρ1 ρ2 : Nat → Int} {ε : EV} {x : Nat} {n : Nat → Int} {G G' : Nat → Nat → Int} {dr aP aL aT aC : Nat} {Dr : Nat → Int} {eP eL eT eC : Int → Nat}
theorem PATR.congrQ {q : Int} {a : Nat} (h1 : ∀ k : Int, 0 ≤ k → k < cq G q → ph G' q k = ph G q k) (h2 : cq G' q = cq G q) (h3 : G' 3 q.toNat = G 3 q.toNat) (h : PATR I ε G q a) : PATR I ε G' q a := by
  obtain ⟨p9, lg, cy, D, E, k1, k2, k3, k4, k5, k6, k7⟩ := h
  refine ⟨p9, lg, cy, D, E, by rw [h3]; exact k1, k2, fun k a b => ?_, k4, by rw [h2, h3]; exact k5, by rw [h2]; exact k6, k7⟩
  rw [h2] at b
  rw [h1 k a b]
  exact k3 k a b
/-- what the reference's rows are when the draft became a pattern -/
abbrev GP (n : Nat → Int) (G : Nat → Nat → Int) : Nat → Nat → Int := va_up (PG G (n 1) (n 0)) 2 (va_up ((PG G (n 1) (n 0)) 2) ((n 1).toNat) (n 0))
theorem GP_ph {q k : Int} : ph (GP n G) q k = if 6 * n 1 ≤ ((6 * q + k).toNat : Int) ∧ ((6 * q + k).toNat : Int) < 6 * n 1 + n 0 then G 0 (((6 * q + k).toNat : Int) - 6 * n 1).toNat else G 1 (6 * q + k).toNat := rfl
theorem GP_cq {q : Int} : GP n G 2 q.toNat = va_up (G 2) (n 1).toNat (n 0) q.toNat := rfl
theorem GP_3 {q : Int} : GP n G 3 q.toNat = va_up (G 3) (n 1).toNat (G 3 (n 1).toNat + sf (fun j => G 0 j.toNat) (n 0).toNat 0) q.toNat := rfl
theorem RXC.pattern {q1 q2 : Nat} {g : Nat → Int} (h : RXC (IP L f ρ) ε x n G dr aP aL aT aC Dr eP eL eT eC) (hV : VPat n G) (hN : NB n) (hn0 : n 0 = 2 ∨ n 0 = 4 ∨ n 0 = 6) (hz : G 3 (n 1).toNat = 0)
    (kq : KEEP L f ρ L1 f1 ρ1 (fun _ => False)) (hg : ∀ k : Int, 0 ≤ k → k < n 0 → g k.toNat = Dr k.toNat) (hgr : ∀ k, rg (g k)) (hD9 : ∀ k : Int, 0 ≤ k → k < n 0 → 1 ≤ G 0 k.toNat ∧ G 0 k.toNat ≤ 9)
    {E : Nat → Int} (h1 : IP L1 f1 ρ1 (1000 + n 1) q1 (oPa (sf (DP g) (n 0).toNat 0) (BW (LIT g (n 0).toNat) (sf (DP g) (n 0).toNat 0).toNat) q2)) (h2 : IP L1 f1 ρ1 (2000 + n 1) q2 (eI ε (CYC g ((n 0).toNat : Nat)).toNat E)) (hE : ∀ k : Int, 0 ≤ k → k < CYC g ((n 0).toNat : Nat) → E k.toNat = g k.toNat) (hEr : ∀ k, rg (E k))
    (hk : KEEP L1 f1 ρ1 L2 f2 ρ2 (fun z => z = 2 ∨ z = 6)) (hl2 : LISTR (IP L2 f2 ρ2) ε 2 6 aP (n 1 + 1) (fun j => if j = n 1 then q1 else eP j)) :
    RX (IP L2 (va_up f2 x (oLR dr 0 aP aL aT aC)) ρ2) ε x (va_up (va_up n 0 0) 1 (n 1 + 1)) (GP n G) := by
  obtain ⟨hx0, hxD, hlP, hlL, hlT, hlC, hpP, hpL, hpT, hpC⟩ := h
  have kp : KEEP L f ρ L2 f2 ρ2 (fun z => z = 2 ∨ z = 6) := kq.trans hk (fun _ z => z.elim) (fun _ z => z)
  have hx2 := kp _ _ _ hx0 (by decide)
  have ku : KEEP L2 f2 ρ2 L2 (va_up f2 x (oLR dr 0 aP aL aT aC)) ρ2 (fun z => z = 0) := KEEP.up hx2.2
  have kt : KEEP L f ρ L2 (va_up f2 x (oLR dr 0 aP aL aT aC)) ρ2 (fun z => z = 0 ∨ z = 2 ∨ z = 6) := kp.trans ku (fun _ z => Or.inr z) (fun _ z => Or.inl z)
  have k2 : KEEP L1 f1 ρ1 L2 (va_up f2 x (oLR dr 0 aP aL aT aC)) ρ2 (fun z => z = 0 ∨ z = 2 ∨ z = 6) := hk.trans ku (fun _ z => Or.inr z) (fun _ z => Or.inl z)
  have hsf : sf (DP g) (n 0).toNat 0 = sf (fun j => G 0 j.toNat) (n 0).toNat 0 := sf_congr (c := (n 0).toNat) (fun k a b => by show g k.toNat = _; rw [hg k a (by omega)]; exact hxD.2.1 k a (by omega)) _ 0 (by omega) (by omega)
  refine RXC.mk (dr := dr) (aP := aP) (aL := aL) (aT := aT) (aC := aC) (Dr := Dr) (eP := fun j => if j = n 1 then q1 else eP j) (eL := eL) (eT := eT) (eC := eC) ⟨⟨⟨hx2.1.1, va_up_self _ _ _⟩, hx2.2⟩, ⟨kt _ _ _ hxD.1 (by decide), fun k a b => absurd b (by show ¬ k < 0; omega), hxD.2.2⟩, hl2.keep ku (by decide) (by decide), hlL.keep kt (by decide) (by decide), hlT.keep kt (by decide) (by decide), hlC.keep kt (by decide) (by decide), fun q a b => ?_, fun q a b => ((hpL q a b).keep kt (by omega) (by omega)).congrG rfl rfl rfl rfl rfl rfl rfl, fun q a b => ((hpT q a b).keep kt (by omega)).congrG rfl, fun q a b => ((hpC q a b).keep kt (by omega) (by omega)).congrG rfl rfl⟩
  have b' : q < n 1 + 1 := b
  by_cases e : q = n 1
  · subst e
    have e3 : GP n G 3 (n 1).toNat = sf (DP g) (n 0).toNat 0 := by rw [GP_3, va_up_self, hz, hsf, Int.zero_add]
    have e2 : cq (GP n G) (n 1) = (n 0).toNat := by show (GP n G 2 (n 1).toNat).toNat = _; rw [GP_cq, va_up_self]
    have hb := sf_bd (d := DP g) (c := (n 0).toNat) (fun k a b => by show 1 ≤ g k.toNat ∧ g k.toNat ≤ 9; rw [hg k a (by omega), hxD.2.1 k a (by omega)]; exact hD9 k a (by omega)) (n 0).toNat 0 (by omega) (by omega)
    dsimp only
    rw [if_pos rfl]
    refine ⟨q2, _, _, g, E, by rw [e3]; exact k2 _ _ _ h1 (by omega), k2 _ _ _ h2 (by omega), fun k a b => ?_, hgr, by rw [e2, e3]; exact BITS.of ⟨by omega, by omega⟩, by rw [e2], hE, hEr⟩
    rw [e2] at b
    rw [GP_ph, if_pos (by omega), hg k a (by omega), hxD.2.1 k a (by omega)]
    congr 1
    omega
  · have hq := hV.2 q a (by omega)
    have hc : cq G q ≤ 6 := by have z := hq.1; omega
    dsimp only
    rw [if_neg e]
    refine ((hpP q a (by omega)).keep kt (by omega) (by omega)).congrQ (fun k a b => ?_) ?_ ?_
    · rw [GP_ph, if_neg (by omega)]
    · show (GP n G 2 q.toNat).toNat = _
      rw [GP_cq, va_up_ne _ _ (by omega)]
    · rw [GP_3, va_up_ne _ _ (by omega)]
end PTS
