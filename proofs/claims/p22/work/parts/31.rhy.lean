/-! the class's rhythms: phases D, c of them; cycles, turns -/
abbrev DP (D : Nat → Int) : Int → Int := fun k => D k.toNat
/-- the word lg holds the seconds of the rhythm -/
def BITS (D : Nat → Int) (c : Nat) (pe lg : Int) : Prop := (0 ≤ lg ∧ lg < 2 ^ 60) ∧ ALLb (fun u => BT lg u ↔ litF (DP D) c 0 u = true) pe
/-- turned by t, in a cycle of cy -/
def tn (cy t i : Int) : Int := if i + t < cy then i + t else i + t - cy
def TURN (D D2 : Nat → Int) (cy t : Int) : Prop := ALLb (fun i => D (tn cy t i).toNat = D2 i.toNat) cy
/-- some turn by an even number of phases -/
def EVT (P : Int → Prop) (t : Int) : Prop := EXb (fun u => u % 2 = 0 ∧ P u) t
def PHS (D D2 : Nat → Int) (cy cy2 : Int) : Prop := cy = cy2 ∧ EVT (TURN D D2 cy) cy
def SLAT (f g : Int → Bool) (n t : Int) : Prop := ALLb (fun u => f (u + t) = g u) n
def SECS (f g : Int → Bool) (pf pg : Int) : Prop := EXb (fun t => SLAT f g (pf * pg) t) pf
/-- the look w of many seconds is that of the rhythm f begun at t -/
def LOOK (f : Int → Bool) (w many t : Int) : Prop := ALLb (fun u => (f (t + u) = true ↔ BT w u)) many
def REPS (D : Nat → Int) (c few : Int) : Prop := ∀ i : Int, few ≤ i → i < c → D i.toNat = D (i - few).toNat
/-- phases that repeat behind 'few' -/
def CYK (D : Nat → Int) (c few : Int) : Prop := c % few = 0 ∧ REPS D c few
noncomputable def cycF (D : Nat → Int) (c : Int) : Nat → Int → Int
  | 0, _ => c
  | k + 1, few => if few < c then (if tb (CYK D c few) = true then few else cycF D c k (few + 2)) else c
noncomputable def CYC (D : Nat → Int) (c : Int) : Int := cycF D c 3 2
theorem EVT.zero {P : Int → Prop} {t : Int} (h : t ≤ 0) : ¬ EVT P t := EXb.zero h
theorem EVT.step {P : Int → Prop} {t : Int} (h0 : 0 ≤ t) (he : t % 2 = 0) : EVT P (t + 2) ↔ EVT P t ∨ P t := by
  unfold EVT
  rw [show t + 2 = t + 1 + 1 by omega, EXb.succ (by omega), EXb.succ h0]
  constructor
  · rintro ((h | h) | h)
    · exact Or.inl h
    · exact Or.inr h.2
    · exact absurd h.1 (by omega)
  · rintro (h | h)
    · exact Or.inl (Or.inl h)
    · exact Or.inl (Or.inr ⟨he, h⟩)
theorem EXb.eq {P : Int → Prop} {t t' : Int} (h : t = t') (q : EXb P t) : EXb P t' := h ▸ q
theorem REPS.zero {D : Nat → Int} {few : Int} : REPS D few few := fun i h1 h2 => by omega
theorem REPS.succ {D : Nat → Int} {few t : Int} (h0 : few ≤ t) : REPS D (t + 1) few ↔ REPS D t few ∧ D t.toNat = D (t - few).toNat := by
  refine ⟨fun q => ⟨fun i h1 h2 => q i h1 (by omega), q t h0 (by omega)⟩, fun q i h1 h2 => ?_⟩
  by_cases e : i = t
  · rw [e]; exact q.2
  · exact q.1 i h1 (by omega)
theorem tn_bd {cy t i : Int} (h1 : 0 ≤ i ∧ i < cy) (h2 : 0 ≤ t ∧ t < cy) : 0 ≤ tn cy t i ∧ tn cy t i < cy := by unfold tn; split <;> omega
theorem tn_mod {cy t i : Int} (h1 : 0 ≤ i ∧ i < cy) (h2 : 0 ≤ t ∧ t < cy) : (i + t) % cy = tn cy t i := by
  unfold tn
  split
  · exact Int.emod_eq_of_lt (by omega) (by omega)
  · have h3 : (i + t) % cy = ((i + t - cy) + 1 * cy) % cy := by congr 1; omega
    rw [h3, Int.add_mul_emod_self_right, Int.emod_eq_of_lt (by omega) (by omega)]
