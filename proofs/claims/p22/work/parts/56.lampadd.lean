/-! a lamp more -/
section LPS
variable {L L1 L2 : List Nat} {f f1 f2 : Nat → va_E} {ρ ρ1 ρ2 : Nat → Int} {ε : EV} {x : Nat} {n : Nat → Int} {G : Nat → Nat → Int} {dr aP aL aT aC : Nat} {Dr : Nat → Int} {eP eL eT eC : Int → Nat}
/-- what the reference's rows are when a lamp was added -/
abbrev GL (n : Nat → Int) (G : Nat → Nat → Int) (x9 y9 q rc se : Int) : Nat → Nat → Int := va_up (va_up (va_up (va_up (va_up G 4 (va_up (G 4) ((n 2).toNat) x9)) 5 (va_up ((va_up G 4 (va_up (G 4) ((n 2).toNat) x9)) 5) ((n 2).toNat) y9)) 6 (va_up ((va_up (va_up G 4 (va_up (G 4) ((n 2).toNat) x9)) 5 (va_up ((va_up G 4 (va_up (G 4) ((n 2).toNat) x9)) 5) ((n 2).toNat) y9)) 6) ((n 2).toNat) q)) 8 (va_up ((va_up (va_up (va_up G 4 (va_up (G 4) ((n 2).toNat) x9)) 5 (va_up ((va_up G 4 (va_up (G 4) ((n 2).toNat) x9)) 5) ((n 2).toNat) y9)) 6 (va_up ((va_up (va_up G 4 (va_up (G 4) ((n 2).toNat) x9)) 5 (va_up ((va_up G 4 (va_up (G 4) ((n 2).toNat) x9)) 5) ((n 2).toNat) y9)) 6) ((n 2).toNat) q)) 8) ((n 2).toNat) rc)) 9 (va_up ((va_up (va_up (va_up (va_up G 4 (va_up (G 4) ((n 2).toNat) x9)) 5 (va_up ((va_up G 4 (va_up (G 4) ((n 2).toNat) x9)) 5) ((n 2).toNat) y9)) 6 (va_up ((va_up (va_up G 4 (va_up (G 4) ((n 2).toNat) x9)) 5 (va_up ((va_up G 4 (va_up (G 4) ((n 2).toNat) x9)) 5) ((n 2).toNat) y9)) 6) ((n 2).toNat) q)) 8 (va_up ((va_up (va_up (va_up G 4 (va_up (G 4) ((n 2).toNat) x9)) 5 (va_up ((va_up G 4 (va_up (G 4) ((n 2).toNat) x9)) 5) ((n 2).toNat) y9)) 6 (va_up ((va_up (va_up G 4 (va_up (G 4) ((n 2).toNat) x9)) 5 (va_up ((va_up G 4 (va_up (G 4) ((n 2).toNat) x9)) 5) ((n 2).toNat) y9)) 6) ((n 2).toNat) q)) 8) ((n 2).toNat) rc)) 9) ((n 2).toNat) se)
theorem RXC.lamp {q1 s9 : Nat} {g : Nat → Int} {x9 y9 q rc se : Int} (h : RXC (IP L f ρ) ε x n G dr aP aL aT aC Dr eP eL eT eC) (hN : NB n) (hz7 : G 7 (n 2).toNat = 0) (hz10 : G 10 (n 2).toNat = 0)
    (kq : KEEP L f ρ L1 f1 ρ1 (fun _ => False)) (h1 : IP L1 f1 ρ1 (3000 + n 2) q1 (oLa x9 y9 s9 q 0 0)) (h2 : IP L1 f1 ρ1 (4000 + n 2) s9 (eI ε 32 g)) (hg : ∀ j : Nat, j < 32 → g j = BW (VIS x9 y9 rc se j) 32)
    (hk : KEEP L1 f1 ρ1 L2 f2 ρ2 (fun z => z = 3 ∨ z = 7)) (hl2 : LISTR (IP L2 f2 ρ2) ε 3 7 aL (n 2 + 1) (fun j => if j = n 2 then q1 else eL j)) :
    RX (IP L2 f2 ρ2) ε x (va_up n 2 (n 2 + 1)) (GL n G x9 y9 q rc se) := by
  obtain ⟨hx0, hxD, hlP, hlL, hlT, hlC, hpP, hpL, hpT, hpC⟩ := h
  have kt : KEEP L f ρ L2 f2 ρ2 (fun z => z = 3 ∨ z = 7) := kq.trans hk (fun _ z => z.elim) (fun _ z => z)
  refine RXC.mk (dr := dr) (aP := aP) (aL := aL) (aT := aT) (aC := aC) (Dr := Dr) (eP := eP) (eL := fun j => if j = n 2 then q1 else eL j) (eT := eT) (eC := eC) ⟨kt _ _ _ hx0 (by decide), ⟨kt _ _ _ hxD.1 (by decide), hxD.2⟩, hlP.keep kt (by decide) (by decide), hl2, hlT.keep kt (by decide) (by decide), hlC.keep kt (by decide) (by decide), fun q a b => ((hpP q a b).keep kt (by omega) (by omega)).congrG rfl rfl rfl, fun j a b => ?_, fun q a b => ((hpT q a b).keep kt (by omega)).congrG rfl, fun q a b => ((hpC q a b).keep kt (by omega) (by omega)).congrG rfl rfl⟩
  have b' : j < n 2 + 1 := b
  have e4 : GL n G x9 y9 q rc se 4 = va_up (G 4) (n 2).toNat x9 := rfl
  have e5 : GL n G x9 y9 q rc se 5 = va_up (G 5) (n 2).toNat y9 := rfl
  have e6 : GL n G x9 y9 q rc se 6 = va_up (G 6) (n 2).toNat q := rfl
  have e7 : GL n G x9 y9 q rc se 7 = G 7 := rfl
  have e8 : GL n G x9 y9 q rc se 8 = va_up (G 8) (n 2).toNat rc := rfl
  have e9 : GL n G x9 y9 q rc se 9 = va_up (G 9) (n 2).toNat se := rfl
  have e10 : GL n G x9 y9 q rc se 10 = G 10 := rfl
  by_cases e : j = n 2
  · dsimp only
    rw [if_pos e, e]
    unfold LAMR
    rw [e4, e5, e6, e7, e8, e9, e10, va_up_self, va_up_self, va_up_self, va_up_self, va_up_self, hz7, hz10]
    exact ⟨s9, g, hk _ _ _ h1 (by omega), hk _ _ _ h2 (by omega), hg⟩
  · dsimp only
    rw [if_neg e]
    have hne : j.toNat ≠ (n 2).toNat := by omega
    exact ((hpL j a (by omega)).keep kt (by omega) (by omega)).congrG (by rw [e4, va_up_ne _ _ hne]) (by rw [e5, va_up_ne _ _ hne]) (by rw [e6, va_up_ne _ _ hne]) (by rw [e7]) (by rw [e8, va_up_ne _ _ hne]) (by rw [e9, va_up_ne _ _ hne]) (by rw [e10])
end LPS
