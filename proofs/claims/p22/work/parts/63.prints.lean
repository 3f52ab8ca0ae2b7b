/-! a chart more -/
section PRS
variable {L L1 L3 : List Nat} {f f1 f2 f3 : Nat → va_E} {ρ ρ1 ρ3 : Nat → Int} {ε : EV} {x : Nat} {n : Nat → Int} {G G' : Nat → Nat → Int} {dr aP aL aT aC : Nat} {Dr : Nat → Int} {eP eL eT eC : Int → Nat}
theorem RXC.chart {q1 s9 : Nat} {S : Nat → Int} (h : RXC (IP L f ρ) ε x n G dr aP aL aT aC Dr eP eL eT eC) (h0 : 0 ≤ n 4) (hz : G 12 (n 4).toNat = 0) (kq : KEEP L f ρ L1 f1 ρ1 (fun _ => False))
    (h1 : IP L1 f1 ρ1 (6000 + n 4) q1 (oCh s9 0)) (h2 : IP L1 f1 ρ1 (7000 + n 4) s9 (eI ε 12 S)) (hS : ∀ k : Nat, k < 12 → S k = -1) : RQC (IP L1 f1 ρ1) ε x n (SH G (n 4) 12) dr aP aL aT aC Dr eP eL eT eC (n 4) q1 := by
  obtain ⟨hx0, hxD, hlP, hlL, hlT, hlC, hpP, hpL, hpT, hpC⟩ := h
  have e12 : SH G (n 4) 12 12 = G 12 := rfl
  have e13 : SH G (n 4) 12 13 = fun j : Nat => if 12 * n 4 ≤ (j : Int) ∧ (j : Int) < 12 * n 4 + 12 then -1 else G 13 j := rfl
  refine ⟨kq _ _ _ hx0 (fun z => z), ⟨kq _ _ _ hxD.1 (fun z => z), hxD.2⟩, hlP.keep kq (fun z => z) (fun z => z), hlL.keep kq (fun z => z) (fun z => z), hlT.keep kq (fun z => z) (fun z => z), hlC.keep kq (fun z => z) (fun z => z), fun q a b => ((hpP q a b).keep kq (fun z => z) (fun z => z)).congrG rfl rfl rfl, fun q a b => ((hpL q a b).keep kq (fun z => z) (fun z => z)).congrG rfl rfl rfl rfl rfl rfl rfl, fun q a b => ((hpT q a b).keep kq (fun z => z)).congrG rfl, fun c a b e => ((hpC c a b).keep kq (fun z => z) (fun z => z)).congrC (by rw [e12]) (fun k k1 k2 => by rw [e13]; dsimp only; rw [if_neg (by omega)]), ⟨s9, S, by rw [e12, hz]; exact h1, h2, fun k k1 k2 => ?_⟩⟩
  rw [hS _ (by omega), e13]
  dsimp only
  rw [if_pos (by omega)]
theorem RQC.chartIn {q1 : Nat} {c : Int} (h : RQC (IP L f ρ) ε x n G dr aP aL aT aC Dr eP eL eT eC (n 4) q1) (a : 0 ≤ c) (b : c < n 4) : ∃ fs, IP L f ρ (6000 + c) (eC c) (.inr (1, fs)) := by
  obtain ⟨pa, S, h1, -⟩ := h.2.2.2.2.2.2.2.2.2.1 c a b (by omega)
  exact ⟨_, h1⟩
theorem RQC.add {q1 : Nat} (h : RQC (IP L f ρ) ε x n G dr aP aL aT aC Dr eP eL eT eC (n 4) q1) (hk : KEEP L f ρ L3 f3 ρ3 (fun z => z = 5 ∨ z = 9)) (h0 : 0 ≤ n 4) (hl : LISTR (IP L3 f3 ρ3) ε 5 9 aC (n 4 + 1) (fun j => if j = n 4 then q1 else eC j)) : RX (IP L3 f3 ρ3) ε x (va_up n 4 (n 4 + 1)) G := by
  obtain ⟨hx0, hxD, hlP, hlL, hlT, hlC, hpP, hpL, hpT, hpC, hpA⟩ := h
  refine RXC.mk (dr := dr) (aP := aP) (aL := aL) (aT := aT) (aC := aC) (Dr := Dr) (eP := eP) (eL := eL) (eT := eT) (eC := fun j => if j = n 4 then q1 else eC j) ⟨hk _ _ _ hx0 (by decide), ⟨hk _ _ _ hxD.1 (by decide), hxD.2⟩, hlP.keep hk (by decide) (by decide), hlL.keep hk (by decide) (by decide), hlT.keep hk (by decide) (by decide), hl, fun q a b => (hpP q a b).keep hk (by omega) (by omega), fun q a b => (hpL q a b).keep hk (by omega) (by omega), fun q a b => (hpT q a b).keep hk (by omega), fun c a b => ?_⟩
  have b' : c < n 4 + 1 := b
  dsimp only
  by_cases e : c = n 4
  · rw [if_pos e, e]
    exact hpA.keep hk (by omega) (by omega)
  · rw [if_neg e]
    exact (hpC c a (by omega) e).keep hk (by omega) (by omega)
end PRS
