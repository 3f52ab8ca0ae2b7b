/-! a chart takes notices -/
abbrev RQC (I : LK) (ε : EV) (x : Nat) (n : Nat → Int) (G : Nat → Nat → Int) (dr aP aL aT aC : Nat) (Dr : Nat → Int) (eP eL eT eC : Int → Nat) (ch : Int) (a : Nat) : Prop :=
  I 0 x (oLR dr (n 0) aP aL aT aC) ∧ (I 1 dr (eI ε 6 Dr) ∧ (∀ k : Int, 0 ≤ k → k < n 0 → Dr k.toNat = G 0 k.toNat) ∧ ∀ k, rg (Dr k)) ∧
    LISTR I ε 2 6 aP (n 1) eP ∧ LISTR I ε 3 7 aL (n 2) eL ∧ LISTR I ε 4 8 aT (n 3) eT ∧ LISTR I ε 5 9 aC (n 4) eC ∧
    (∀ q : Int, 0 ≤ q → q < n 1 → PATR I ε G q (eP q)) ∧ (∀ i : Int, 0 ≤ i → i < n 2 → LAMR I ε G i (eL i)) ∧ (∀ j : Int, 0 ≤ j → j < n 3 → NOTR I G j (eT j)) ∧ (∀ c : Int, 0 ≤ c → c < n 4 → c ≠ ch → CHAR I ε G c (eC c)) ∧ CHAR I ε G ch a
section PUS
variable {I : LK} {L : List Nat} {f : Nat → va_E} {ρ : Nat → Int} {ε : EV} {x : Nat} {n : Nat → Int} {G G' : Nat → Nat → Int} {dr aP aL aT aC : Nat} {Dr : Nat → Int} {eP eL eT eC : Int → Nat} {ch : Int} {a : Nat}
theorem CHAR.congrC {c : Int} {b : Nat} (h12 : G' 12 c.toNat = G 12 c.toNat) (h13 : ∀ k : Int, 0 ≤ k → k < 12 → G' 13 (12 * c + k).toNat = G 13 (12 * c + k).toNat) (h : CHAR I ε G c b) : CHAR I ε G' c b := by
  obtain ⟨pa, S, h1, h2, h3⟩ := h
  exact ⟨pa, S, by rw [h12]; exact h1, h2, fun k a b => (h3 k a b).trans (h13 k a b).symm⟩
theorem RXC.toQ (h : RXC I ε x n G dr aP aL aT aC Dr eP eL eT eC) (h1 : 0 ≤ ch ∧ ch < n 4) : RQC I ε x n G dr aP aL aT aC Dr eP eL eT eC ch (eC ch) := by
  obtain ⟨h2, h3, h4, h5, h6, h7, h8, h9, h10, h11⟩ := h
  exact ⟨h2, h3, h4, h5, h6, h7, h8, h9, h10, fun c a b _ => h11 c a b, h11 ch h1.1 h1.2⟩
theorem RQC.back (h : RQC I ε x n G dr aP aL aT aC Dr eP eL eT eC ch (eC ch)) : RXC I ε x n G dr aP aL aT aC Dr eP eL eT eC := by
  obtain ⟨h2, h3, h4, h5, h6, h7, h8, h9, h10, h11, h12⟩ := h
  refine ⟨h2, h3, h4, h5, h6, h7, h8, h9, h10, fun c a b => ?_⟩
  by_cases e : c = ch
  · rw [e]; exact h12
  · exact h11 c a b e
theorem RQC.put {pa : Nat} {S : Nat → Int} {j : Int} (h : RQC (IP L f ρ) ε x n G dr aP aL aT aC Dr eP eL eT eC ch a) (hc : 0 ≤ ch) (hN : NB n) (hch : ch ≤ n 4) (hj : G 12 ch.toNat = j) (hla : 0 ≤ G 11 j.toNat / 32 ∧ G 11 j.toNat / 32 < 12)
    (ha : IP L f ρ (6000 + ch) a (oCh pa (G 12 ch.toNat))) (hp : IP L f ρ (7000 + ch) pa (eI ε 12 S)) (hS : ∀ k : Int, 0 ≤ k → k < 12 → S k.toNat = G 13 (12 * ch + k).toNat) (hne : a ≠ pa) :
    RQC (IP L (va_up (va_up f pa (eI ε 12 (va_up S (G 11 j.toNat / 32).toNat (NOTP (G 11 j.toNat))))) a (oCh pa (G 12 ch.toNat + 1))) ρ) ε x n (putG ch G) dr aP aL aT aC Dr eP eL eT eC ch a := by
  obtain ⟨hx0, hxD, hlP, hlL, hlT, hlC, hpP, hpL, hpT, hpC, -⟩ := h
  have kp : KEEP L f ρ L (va_up (va_up f pa (eI ε 12 (va_up S (G 11 j.toNat / 32).toNat (NOTP (G 11 j.toNat))))) a (oCh pa (G 12 ch.toNat + 1))) ρ (fun z => z = 6000 + ch ∨ z = 7000 + ch) := (KEEP.up hp.2).trans (KEEP.up ha.2) (fun _ z => Or.inr z) (fun _ z => Or.inl z)
  have e12 : putG ch G 12 = va_up (G 12) ch.toNat (G 12 ch.toNat + 1) := rfl
  have e13 : putG ch G 13 = va_up (G 13) (12 * ch + G 11 j.toNat / 32).toNat (NOTP (G 11 j.toNat)) := by rw [← hj]; rfl
  refine ⟨kp _ _ _ hx0 (by omega), ⟨kp _ _ _ hxD.1 (by omega), hxD.2⟩, hlP.keep kp (by omega) (by omega), hlL.keep kp (by omega) (by omega), hlT.keep kp (by omega) (by omega), hlC.keep kp (by omega) (by omega), fun q a b => ((hpP q a b).keep kp (by omega) (by omega)).congrG rfl rfl rfl, fun q a b => ((hpL q a b).keep kp (by omega) (by omega)).congrG rfl rfl rfl rfl rfl rfl rfl, fun q a b => ((hpT q a b).keep kp (by omega)).congrG rfl, fun c a b e => ((hpC c a b e).keep kp (by omega) (by omega)).congrC (by rw [e12, va_up_ne _ _ (by omega)]) (fun k k1 k2 => by rw [e13, va_up_ne _ _ (by omega)]), ?_⟩
  refine ⟨pa, va_up S (G 11 j.toNat / 32).toNat (NOTP (G 11 j.toNat)), ⟨⟨ha.1.1, ?_⟩, ha.2⟩, ⟨⟨hp.1.1, (va_up_ne _ _ (Ne.symm hne)).trans (va_up_self _ _ _)⟩, hp.2⟩, fun k k1 k2 => ?_⟩
  · rw [e12]
    exact (va_up_self _ _ _).trans (by rw [va_up_self])
  · rw [e13]
    by_cases e : k = G 11 j.toNat / 32
    · rw [e, va_up_self, va_up_self]
    · rw [va_up_ne _ _ (by omega), va_up_ne _ _ (by omega)]
      exact hS k k1 k2
end PUS
theorem mn_fix {g m t : Int} (h : g + m ≤ t) : mn (g + m) t - g = m := by
  unfold mn
  rw [if_pos h]
  omega
