/-! what stays where other roles are written; the harbour after each call -/
theorem KEEP.up {L : List Nat} {f : Nat → va_E} {ρ : Nat → Int} {a : Nat} {e : va_E} {r : Int} (h : ρ a = r) : KEEP L f ρ L (va_up f a e) ρ (fun z => z = r) := fun z b e0 h1 h2 =>
  ⟨⟨h1.1.1, (va_up_ne _ _ (fun k : b = a => h2 (by rw [← h1.2, k, h]))).trans h1.1.2⟩, h1.2⟩
theorem KEEP.push {L : List Nat} {f : Nat → va_E} {ρ : Nat → Int} {q : Nat} {e : va_E} {r : Int} (h : q ∉ L) : KEEP L f ρ (L ++ [q]) (va_up f q e) (va_up ρ q r) (fun _ => False) := fun z b e0 h1 _ =>
  ⟨⟨List.mem_append_left _ h1.1.1, (va_up_ne _ _ (fun k : b = q => h (k ▸ h1.1.1))).trans h1.1.2⟩, (va_up_ne _ _ (fun k : b = q => h (k ▸ h1.1.1))).trans h1.2⟩
section KP
variable {L L' : List Nat} {f f' : Nat → va_E} {ρ ρ' : Nat → Int} {S : Int → Prop} {ε : EV} {G : Nat → Nat → Int}
theorem LISTR.keep {r re : Int} {al : Nat} {cnt : Int} {el : Int → Nat} (k : KEEP L f ρ L' f' ρ' S) (hr : ¬ S r) (hre : ¬ S re) (h : LISTR (IP L f ρ) ε r re al cnt el) : LISTR (IP L' f' ρ') ε r re al cnt el := by
  obtain ⟨md, ed, h1, h2⟩ := h
  refine ⟨md, ed, k _ _ _ h1 hr, h2.imp id ?_⟩
  rintro ⟨cap, g, h3, h4⟩
  exact ⟨cap, g, k _ _ _ h3 hre, h4⟩
theorem PATR.keep {q : Int} {a : Nat} (k : KEEP L f ρ L' f' ρ' S) (k1 : ¬ S (1000 + q)) (k2 : ¬ S (2000 + q)) (h : PATR (IP L f ρ) ε G q a) : PATR (IP L' f' ρ') ε G q a := by
  obtain ⟨p9, lg, cy, D, E, h1, h2, h3⟩ := h
  exact ⟨p9, lg, cy, D, E, k _ _ _ h1 k1, k _ _ _ h2 k2, h3⟩
theorem LAMR.keep {q : Int} {a : Nat} (k : KEEP L f ρ L' f' ρ' S) (k1 : ¬ S (3000 + q)) (k2 : ¬ S (4000 + q)) (h : LAMR (IP L f ρ) ε G q a) : LAMR (IP L' f' ρ') ε G q a := by
  obtain ⟨si, g, h1, h2, h3⟩ := h
  exact ⟨si, g, k _ _ _ h1 k1, k _ _ _ h2 k2, h3⟩
theorem NOTR.keep {q : Int} {a : Nat} (k : KEEP L f ρ L' f' ρ' S) (k1 : ¬ S (5000 + q)) (h : NOTR (IP L f ρ) G q a) : NOTR (IP L' f' ρ') G q a := k _ _ _ h k1
theorem CHAR.keep {q : Int} {a : Nat} (k : KEEP L f ρ L' f' ρ' S) (k1 : ¬ S (6000 + q)) (k2 : ¬ S (7000 + q)) (h : CHAR (IP L f ρ) ε G q a) : CHAR (IP L' f' ρ') ε G q a := by
  obtain ⟨pa, S9, h1, h2, h3⟩ := h
  exact ⟨pa, S9, k _ _ _ h1 k1, k _ _ _ h2 k2, h3⟩
end KP
/-- the harbour with its parts named -/
abbrev RXC (I : LK) (ε : EV) (x : Nat) (n : Nat → Int) (G : Nat → Nat → Int) (dr aP aL aT aC : Nat) (Dr : Nat → Int) (eP eL eT eC : Int → Nat) : Prop :=
  I 0 x (oLR dr (n 0) aP aL aT aC) ∧ (I 1 dr (eI ε 6 Dr) ∧ (∀ k : Int, 0 ≤ k → k < n 0 → Dr k.toNat = G 0 k.toNat) ∧ ∀ k, rg (Dr k)) ∧
    LISTR I ε 2 6 aP (n 1) eP ∧ LISTR I ε 3 7 aL (n 2) eL ∧ LISTR I ε 4 8 aT (n 3) eT ∧ LISTR I ε 5 9 aC (n 4) eC ∧
    (∀ q : Int, 0 ≤ q → q < n 1 → PATR I ε G q (eP q)) ∧ (∀ i : Int, 0 ≤ i → i < n 2 → LAMR I ε G i (eL i)) ∧ (∀ j : Int, 0 ≤ j → j < n 3 → NOTR I G j (eT j)) ∧ ∀ ch : Int, 0 ≤ ch → ch < n 4 → CHAR I ε G ch (eC ch)
theorem RXC.mk {I : LK} {ε : EV} {x : Nat} {n : Nat → Int} {G : Nat → Nat → Int} {dr aP aL aT aC : Nat} {Dr : Nat → Int} {eP eL eT eC : Int → Nat} (h : RXC I ε x n G dr aP aL aT aC Dr eP eL eT eC) : RX I ε x n G := ⟨dr, aP, aL, aT, aC, Dr, eP, eL, eT, eC, h⟩
/-- only these numbers are told -/
theorem RX.num {I : LK} {ε : EV} {x : Nat} {n n' : Nat → Int} {G : Nat → Nat → Int} (h : RX I ε x n G) (e0 : n' 0 = n 0) (e1 : n' 1 = n 1) (e2 : n' 2 = n 2) (e3 : n' 3 = n 3) (e4 : n' 4 = n 4) : RX I ε x n' G := by
  unfold RX at h ⊢
  rw [e0, e1, e2, e3, e4]
  exact h
section RXS
variable {L : List Nat} {f : Nat → va_E} {ρ : Nat → Int} {ε : EV} {x : Nat} {n : Nat → Int} {G : Nat → Nat → Int} {dr aP aL aT aC : Nat} {Dr : Nat → Int} {eP eL eT eC : Int → Nat}
/-- a phase more -/
theorem RXC.phase {t : Int} (h : RXC (IP L f ρ) ε x n G dr aP aL aT aC Dr eP eL eT eC) (h0 : 0 ≤ n 0) (hxd : x ≠ dr) (rt : rg t) : RX (IP L (va_up (va_up f dr (eI ε 6 (va_up Dr (n 0).toNat t))) x (oLR dr (n 0 + 1) aP aL aT aC)) ρ) ε x (va_up n 0 (n 0 + 1)) (va_up G 0 (va_up (G 0) (n 0).toNat t)) := by
  obtain ⟨hx0, hxD, hlP, hlL, hlT, hlC, hpP, hpL, hpT, hpC⟩ := h
  have kp : KEEP L f ρ L (va_up (va_up f dr (eI ε 6 (va_up Dr (n 0).toNat t))) x (oLR dr (n 0 + 1) aP aL aT aC)) ρ (fun z => z = 0 ∨ z = 1) := (KEEP.up hxD.1.2).trans (KEEP.up hx0.2) (fun _ z => Or.inr z) (fun _ z => Or.inl z)
  refine RXC.mk (dr := dr) (aP := aP) (aL := aL) (aT := aT) (aC := aC) (Dr := va_up Dr (n 0).toNat t) (eP := eP) (eL := eL) (eT := eT) (eC := eC) ⟨⟨⟨hx0.1.1, va_up_self _ _ _⟩, hx0.2⟩, ⟨⟨⟨hxD.1.1.1, (va_up_ne _ _ (Ne.symm hxd)).trans (va_up_self _ _ _)⟩, hxD.1.2⟩, fun k a b => ?_, fun k => by unfold va_up; split; exact rt; exact hxD.2.2 k⟩, hlP.keep kp (by decide) (by decide), hlL.keep kp (by decide) (by decide), hlT.keep kp (by decide) (by decide), hlC.keep kp (by decide) (by decide), fun q a b => (hpP q a b).keep kp (by omega) (by omega), fun q a b => (hpL q a b).keep kp (by omega) (by omega), fun q a b => (hpT q a b).keep kp (by omega), fun q a b => (hpC q a b).keep kp (by omega) (by omega)⟩
  have b' : k < n 0 + 1 := b
  show va_up Dr (n 0).toNat t k.toNat = va_up (G 0) (n 0).toNat t k.toNat
  unfold va_up
  by_cases e : k.toNat = (n 0).toNat
  · rw [if_pos e, if_pos e]
  · rw [if_neg e, if_neg e]
    exact hxD.2.1 k a (by omega)
theorem RXC.notIn {j : Int} (h : RXC (IP L f ρ) ε x n G dr aP aL aT aC Dr eP eL eT eC) (a : 0 ≤ j) (b : j < n 3) : IP L f ρ (5000 + j) (eT j) (oNo (G 11 j.toNat / 32) (NOTP (G 11 j.toNat))) := h.2.2.2.2.2.2.2.2.1 j a b
/-- a notice more -/
theorem RXC.tell {i : Int} {q : Nat} {L2 : List Nat} {f2 : Nat → va_E} {ρ2 : Nat → Int} (h : RXC (IP L f ρ) ε x n G dr aP aL aT aC Dr eP eL eT eC) (hq : q ∉ L) (h3 : 0 ≤ n 3) (hi : 0 ≤ i) (h6 : 0 ≤ G 6 i.toNat ∧ G 6 i.toNat < 31) {pt : Int} (hpt : pt = if G 10 i.toNat = 0 then G 6 i.toNat else -1)
    (hk : KEEP (L ++ [q]) (va_up f q (oNo i pt)) (va_up ρ q (5000 + n 3)) L2 f2 ρ2 (fun z => z = 4 ∨ z = 8)) (hl2 : LISTR (IP L2 f2 ρ2) ε 4 8 aT (n 3 + 1) (fun j => if j = n 3 then q else eT j)) :
    RX (IP L2 f2 ρ2) ε x (va_up n 3 (n 3 + 1)) (va_up G 11 (va_up (G 11) (n 3).toNat (NV G i))) := by
  obtain ⟨hx0, hxD, hlP, hlL, hlT, hlC, hpP, hpL, hpT, hpC⟩ := h
  have kp : KEEP L f ρ L2 f2 ρ2 (fun z => z = 4 ∨ z = 8) := (KEEP.push (e := oNo i pt) (r := 5000 + n 3) hq).trans hk (fun _ z => z.elim) (fun _ z => z)
  refine RXC.mk (dr := dr) (aP := aP) (aL := aL) (aT := aT) (aC := aC) (Dr := Dr) (eP := eP) (eL := eL) (eT := fun j => if j = n 3 then q else eT j) (eC := eC) ⟨kp _ _ _ hx0 (by decide), ⟨kp _ _ _ hxD.1 (by decide), hxD.2⟩, hlP.keep kp (by decide) (by decide), hlL.keep kp (by decide) (by decide), hl2, hlC.keep kp (by decide) (by decide), fun q a b => (hpP q a b).keep kp (by omega) (by omega), fun q a b => (hpL q a b).keep kp (by omega) (by omega), fun j a b => ?_, fun q a b => (hpC q a b).keep kp (by omega) (by omega)⟩
  have b' : j < n 3 + 1 := b
  show IP L2 f2 ρ2 (5000 + j) (if j = n 3 then q else eT j) (oNo (va_up (G 11) (n 3).toNat (NV G i) j.toNat / 32) (NOTP (va_up (G 11) (n 3).toNat (NV G i) j.toNat)))
  by_cases e : j = n 3
  · have e1 : va_up (G 11) (n 3).toNat (NV G i) j.toNat = NV G i := by rw [e]; exact va_up_self _ _ _
    have e2 : NV G i / 32 = i := by unfold NV; split <;> omega
    have e3 : NOTP (NV G i) = pt := by
      rw [hpt]
      unfold NOTP NV
      by_cases z : G 10 i.toNat = 0
      · rw [if_pos z, if_pos z, if_neg (by omega)]; omega
      · rw [if_neg z, if_neg z, if_pos (by omega)]
    rw [if_pos e, e1, e2, e3, e]
    exact hk _ _ _ ⟨⟨List.mem_append_right _ (List.mem_singleton.mpr rfl), va_up_self _ _ _⟩, va_up_self _ _ _⟩ (by omega)
  · have e1 : va_up (G 11) (n 3).toNat (NV G i) j.toNat = G 11 j.toNat := va_up_ne _ _ (by omega)
    rw [if_neg e, e1]
    exact kp _ _ _ (hpT j a (by omega)) (by omega)
end RXS
theorem RXC.map {I J : LK} {ε : EV} {x : Nat} {n : Nat → Int} {G : Nat → Nat → Int} {dr aP aL aT aC : Nat} {Dr : Nat → Int} {eP eL eT eC : Int → Nat} (h : ∀ r a e, I r a e → J r a e) (q : RXC I ε x n G dr aP aL aT aC Dr eP eL eT eC) : RXC J ε x n G dr aP aL aT aC Dr eP eL eT eC := by
  obtain ⟨h1, ⟨h2, h3⟩, h4, h5, h6, h7, h8, h9, h10, h11⟩ := q
  exact ⟨h _ _ _ h1, ⟨h _ _ _ h2, h3⟩, h4.map h, h5.map h, h6.map h, h7.map h, fun q a b => (h8 q a b).map h, fun q a b => (h9 q a b).map h, fun q a b => h _ _ _ (h10 q a b), fun q a b => (h11 q a b).map h⟩
