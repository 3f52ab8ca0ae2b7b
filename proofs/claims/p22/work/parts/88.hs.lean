/-! the harbour in a world of its own; its numbers told by lists -/
theorem CT.imp {l : Launch} {y : MethodName} {cc : ByteArray} {mL : Nat} {ret : Option FieldType} {rm : Room} {ε : EV} {as : List Value} {ws : va_W} {post post' : Option Value → va_W → Prop} {px px' : String → va_W → Prop} (h : CT l y cc mL ret rm ε as ws post px) (hp : ∀ v w, post v w → post' v w) (hx : ∀ E w, px E w → px' E w) : CT l y cc mL ret rm ε as ws post' px' := by
  intro p e a1 a2 a3 s m args below a4 a5 a6 a7
  obtain ⟨k, o, h1, h2, h3, h4⟩ := h p e a1 a2 a3 s m args below a4 a5 a6 a7
  refine ⟨k, o, h1, h2, h3, ?_⟩
  rcases h4 with ⟨⟨v, ws', e1, e2, e3⟩, h5⟩ | ⟨q, h5, E, ce, L, ⟨ws', hf, h6⟩, h7⟩
  · exact Or.inl ⟨⟨v, ws', e1, hp _ _ e2, e3⟩, h5⟩
  · exact Or.inr ⟨q, h5, E, ce, L, ⟨ws', hx _ _ hf, h6⟩, h7⟩
def HS (ε : EV) (x : Nat) (n : Nat → Int) (G : Nat → Nat → Int) (w : va_W) : Prop := ∃ (X : va_W) (L : List Nat) (f : Nat → va_E) (ρ : Nat → Int), w = X ++ va_pl L f ∧ RX (IP L f ρ) ε x n G ∧ INV n G
section HSS
variable {ε : EV} {x : Nat} {n n' : Nat → Int} {G G' : Nat → Nat → Int} {w : va_W}
theorem HS.rd (h : HS ε x n G w) : RX (IN w) ε x n G := by
  obtain ⟨X, L, f, ρ, rfl, h1, h2⟩ := h
  exact RX.map IP.IN h1
theorem HS.inv (h : HS ε x n G w) : INV n G := by
  obtain ⟨X, L, f, ρ, rfl, h1, h2⟩ := h
  exact h2
theorem HS.ob (h : HS ε x n G w) : ∃ fs : List Value, In w x (.inr (5, fs)) := by
  obtain ⟨dr, aP, aL, aT, aC, Dr, eP, eL, eT, eC, h0, -⟩ := h.rd
  exact ⟨_, h0⟩
/-- alike as far as the harbour reads its numbers -/
def AG (n : Nat → Int) (G : Nat → Nat → Int) (n' : Nat → Int) (G' : Nat → Nat → Int) : Prop :=
  ((n' 0 = n 0 ∧ n' 1 = n 1) ∧ (n' 2 = n 2 ∧ n' 3 = n 3) ∧ n' 4 = n 4) ∧ (∀ k : Int, 0 ≤ k → k < n 0 → G' 0 k.toNat = G 0 k.toNat) ∧
  (∀ q : Int, 0 ≤ q → q < n 1 → (G' 2 q.toNat = G 2 q.toNat ∧ G' 3 q.toNat = G 3 q.toNat) ∧ ∀ k : Int, 0 ≤ k → k < 6 → ph G' q k = ph G q k) ∧
  (∀ i : Int, 0 ≤ i → i < n 2 → ((G' 4 i.toNat = G 4 i.toNat ∧ G' 5 i.toNat = G 5 i.toNat) ∧ G' 6 i.toNat = G 6 i.toNat ∧ G' 7 i.toNat = G 7 i.toNat) ∧ (G' 8 i.toNat = G 8 i.toNat ∧ G' 9 i.toNat = G 9 i.toNat) ∧ G' 10 i.toNat = G 10 i.toNat) ∧
  (∀ j : Int, 0 ≤ j → j < n 3 → G' 11 j.toNat = G 11 j.toNat) ∧
  ∀ c : Int, 0 ≤ c → c < n 4 → G' 12 c.toNat = G 12 c.toNat ∧ ∀ k : Int, 0 ≤ k → k < 12 → G' 13 (12 * c + k).toNat = G 13 (12 * c + k).toNat
theorem cq.ag {q : Int} (h2 : G' 2 q.toNat = G 2 q.toNat) : cq G' q = cq G q := by show (G' 2 q.toNat).toNat = (G 2 q.toNat).toNat; rw [h2]
theorem PQ.ag {q : Int} (h : PQ G q) (h2 : G' 2 q.toNat = G 2 q.toNat) (h3 : G' 3 q.toNat = G 3 q.toNat) (hk : ∀ k : Int, 0 ≤ k → k < 6 → ph G' q k = ph G q k) : PQ G' q := by
  obtain ⟨k1, k2, k3⟩ := h
  have hc := cq.ag h2
  unfold PQ PV
  rw [hc, h3]
  refine ⟨k1, fun k a b => ?_, ?_⟩
  · rw [hk k a (by omega)]
    exact k2 k a b
  · rw [k3]
    exact sf_congr (c := cq G q) (fun k a b => (hk k a (by omega)).symm) _ 0 (by omega) (by omega)
theorem INV.ag (h : INV n G) (g : AG n G n' G') (z : ZER n' G') : INV n' G' := by
  obtain ⟨⟨⟨e0, e1⟩, ⟨e2, e3⟩, e4⟩, g0, gq, gi, gj, gc⟩ := g
  obtain ⟨⟨d1, d2⟩, ⟨p1, p2⟩, ⟨l1, l2⟩, ⟨c1, c2⟩, ⟨t1, t2⟩, -⟩ := h
  refine ⟨⟨by rw [e0]; exact d1, fun k a b => ?_⟩, ⟨by rw [e1]; exact p1, fun q a b => ?_⟩, ⟨by rw [e2]; exact l1, fun i a b => ?_⟩, ⟨by rw [e4]; exact c1, fun c a b => ?_⟩, ⟨by rw [e3]; exact t1, fun j a b => ?_⟩, z⟩
  · rw [e0] at b
    rw [g0 k a b]
    exact d2 k a b
  · rw [e1] at b
    obtain ⟨⟨k2, k3⟩, k1⟩ := gq q a b
    exact PQ.ag (p2 q a b) k2 k3 k1
  · rw [e2] at b
    obtain ⟨⟨⟨k4, k5⟩, k6, k7⟩, ⟨k8, k9⟩, k10⟩ := gi i a b
    have h9 := l2 i a b
    unfold LV at h9 ⊢
    rw [k4, k5, k6, k7, k8, k9, k10, e1]
    exact h9
  · rw [e4] at b
    obtain ⟨k1, k2⟩ := gc c a b
    obtain ⟨h1, h2⟩ := c2 c a b
    rw [k1, e3]
    refine ⟨h1, fun k x y => ?_⟩
    rw [k2 k x y, e1]
    exact h2 k x y
  · rw [e3] at b
    rw [gj j a b]
    have h9 := t2 j a b
    unfold NOK at h9 ⊢
    rw [e2, e1]
    exact h9
theorem RX.ag {I : LK} (h : RX I ε x n G) (hI : INV n G) (g : AG n G n' G') : RX I ε x n' G' := by
  obtain ⟨⟨⟨e0, e1⟩, ⟨e2, e3⟩, e4⟩, g0, gq, gi, gj, gc⟩ := g
  obtain ⟨dr, aP, aL, aT, aC, Dr, eP, eL, eT, eC, h1, ⟨h2, h3, h4⟩, h5, h6, h7, h8, h9, h10, h11, h12⟩ := h
  refine ⟨dr, aP, aL, aT, aC, Dr, eP, eL, eT, eC, by rw [e0]; exact h1, ⟨h2, fun k a b => ?_, h4⟩, by rw [e1]; exact h5, by rw [e2]; exact h6, by rw [e3]; exact h7, by rw [e4]; exact h8, fun q a b => ?_, fun i a b => ?_, fun j a b => ?_, fun c a b => ?_⟩
  · rw [e0] at b
    rw [g0 k a b]
    exact h3 k a b
  · rw [e1] at b
    obtain ⟨⟨k2, k3⟩, k1⟩ := gq q a b
    have hc := (hI.2.1.q a b).1
    exact (h9 q a b).congrQ (fun k x y => k1 k x (by omega)) (cq.ag k2) k3
  · rw [e2] at b
    obtain ⟨⟨⟨k4, k5⟩, k6, k7⟩, ⟨k8, k9⟩, k10⟩ := gi i a b
    exact (h10 i a b).congrG k4 k5 k6 k7 k8 k9 k10
  · rw [e3] at b
    exact (h11 j a b).congrG (gj j a b)
  · rw [e4] at b
    obtain ⟨k1, k2⟩ := gc c a b
    obtain ⟨pa, S, m1, m2, m3⟩ := h12 c a b
    refine ⟨pa, S, by rw [k1]; exact m1, m2, fun k x y => ?_⟩
    rw [k2 k x y]
    exact m3 k x y
def allN (p : Int → Bool) : Nat → Bool
  | 0 => true
  | k + 1 => p (k : Int) && allN p k
theorem allN_iff {p : Int → Bool} : ∀ m : Nat, allN p m = true ↔ ∀ u : Int, 0 ≤ u → u < m → p u = true := by
  intro m
  induction m with
  | zero => exact ⟨fun _ u a b => by omega, fun _ => rfl⟩
  | succ m ih =>
    show (p (m : Int) && allN p m) = true ↔ _
    rw [Bool.and_eq_true, ih]
    refine ⟨fun h u a b => ?_, fun h => ⟨h m (by omega) (by omega), fun u a b => h u a (by omega)⟩⟩
    by_cases e : u = m
    · rw [e]; exact h.1
    · exact h.2 u a (by omega)
def exN (p : Int → Bool) : Nat → Bool
  | 0 => false
  | k + 1 => p (k : Int) || exN p k
theorem exN_iff {p : Int → Bool} : ∀ m : Nat, exN p m = true ↔ ∃ u : Int, 0 ≤ u ∧ u < m ∧ p u = true := by
  intro m
  induction m with
  | zero => exact ⟨fun h => (by cases h), fun ⟨u, a, b, _⟩ => by omega⟩
  | succ m ih =>
    show (p (m : Int) || exN p m) = true ↔ _
    rw [Bool.or_eq_true, ih]
    constructor
    · rintro (h | ⟨u, a, b, c⟩)
      · exact ⟨m, by omega, by omega, h⟩
      · exact ⟨u, a, by omega, c⟩
    · rintro ⟨u, a, b, c⟩
      by_cases e : u = m
      · exact Or.inl (e ▸ c)
      · exact Or.inr ⟨u, a, by omega, c⟩
abbrev ST : Type := List Int × List (List Int)
def nS (S : ST) : Nat → Int := fun k => S.1.getD k 0
def gS (S : ST) : Nat → Nat → Int := fun r k => (S.2.getD r []).getD k 0
def HC (ε : EV) (x : Nat) (S : ST) (w : va_W) : Prop := HS ε x (nS S) (gS S) w
theorem gS_big {S : ST} {r k : Nat} (h : (S.2.getD r []).length ≤ k) : gS S r k = 0 := by
  unfold gS
  rw [List.getD_eq_getElem?_getD, List.getElem?_eq_none h]
  rfl
/-- the row r is 0 from z on -/
def zrB (S : ST) (r : Nat) (z : Int) : Bool := allN (fun q => decide (q < z) || decide (gS S r q.toNat = 0)) (S.2.getD r []).length
theorem zrB_ok {S : ST} {r : Nat} {z : Int} (h : zrB S r z = true) {q : Int} (h0 : 0 ≤ q) (hq : z ≤ q) : gS S r q.toNat = 0 := by
  by_cases e : q < ((S.2.getD r []).length : Nat)
  · have h1 := (allN_iff _).mp h q h0 e
    rcases Bool.or_eq_true _ _ ▸ h1 with h2 | h2
    · have := of_decide_eq_true h2; omega
    · exact of_decide_eq_true h2
  · exact gS_big (by omega)
def zerB (S : ST) : Bool := (decide (0 ≤ nS S 1) && decide (0 ≤ nS S 2) && decide (0 ≤ nS S 4)) && (zrB S 3 (nS S 1) && zrB S 7 (nS S 2) && zrB S 10 (nS S 2) && zrB S 12 (nS S 4))
theorem zerB_ok {S : ST} (h : zerB S = true) : ZER (nS S) (gS S) := by
  unfold zerB at h
  simp only [Bool.and_eq_true, decide_eq_true_eq] at h
  obtain ⟨⟨⟨a1, a2⟩, a4⟩, ⟨⟨b3, b7⟩, b10⟩, b12⟩ := h
  exact ⟨fun q hq => zrB_ok b3 (by omega) hq, fun i hi => ⟨zrB_ok b7 (by omega) hi, zrB_ok b10 (by omega) hi⟩, fun c hc => zrB_ok b12 (by omega) hc⟩
def agB (n : Nat → Int) (G : Nat → Nat → Int) (S : ST) : Bool :=
  (((decide (nS S 0 = n 0) && decide (nS S 1 = n 1)) && (decide (nS S 2 = n 2) && decide (nS S 3 = n 3)) && decide (nS S 4 = n 4)) && allN (fun k => decide (gS S 0 k.toNat = G 0 k.toNat)) (n 0).toNat &&
  allN (fun q => (decide (gS S 2 q.toNat = G 2 q.toNat) && decide (gS S 3 q.toNat = G 3 q.toNat)) && allN (fun k => decide (ph (gS S) q k = ph G q k)) 6) (n 1).toNat) &&
  (allN (fun i => ((decide (gS S 4 i.toNat = G 4 i.toNat) && decide (gS S 5 i.toNat = G 5 i.toNat)) && (decide (gS S 6 i.toNat = G 6 i.toNat) && decide (gS S 7 i.toNat = G 7 i.toNat))) && ((decide (gS S 8 i.toNat = G 8 i.toNat) && decide (gS S 9 i.toNat = G 9 i.toNat)) && decide (gS S 10 i.toNat = G 10 i.toNat))) (n 2).toNat &&
  allN (fun j => decide (gS S 11 j.toNat = G 11 j.toNat)) (n 3).toNat &&
  allN (fun c => decide (gS S 12 c.toNat = G 12 c.toNat) && allN (fun k => decide (gS S 13 (12 * c + k).toNat = G 13 (12 * c + k).toNat)) 12) (n 4).toNat) && zerB S
theorem agB_ok {S : ST} (h : agB n G S = true) : AG n G (nS S) (gS S) ∧ ZER (nS S) (gS S) := by
  unfold agB at h
  simp only [Bool.and_eq_true, allN_iff, decide_eq_true_eq] at h
  obtain ⟨⟨⟨⟨⟨⟨⟨a0, a1⟩, a2, a3⟩, a4⟩, b0⟩, bq⟩, ⟨bi, bj⟩, bc⟩, z⟩ := h
  refine ⟨⟨⟨⟨a0, a1⟩, ⟨a2, a3⟩, a4⟩, fun k a b => b0 k a (by omega), fun q a b => ?_, fun i a b => ?_, fun j a b => bj j a (by omega), fun c a b => ?_⟩, zerB_ok z⟩
  · obtain ⟨h1, h2⟩ := bq q a (by omega)
    exact ⟨h1, fun k x y => h2 k x (by omega)⟩
  · exact bi i a (by omega)
  · obtain ⟨h1, h2⟩ := bc c a (by omega)
    exact ⟨h1, fun k x y => h2 k x (by omega)⟩
theorem HS.cv {S : ST} (h : HS ε x n G w) (g : agB n G S = true) : HC ε x S w := by
  obtain ⟨X, L, f, ρ, hw, h1, h2⟩ := h
  obtain ⟨g1, g2⟩ := agB_ok g
  exact ⟨X, L, f, ρ, hw, h1.ag h2 g1, h2.ag g1 g2⟩
end HSS
