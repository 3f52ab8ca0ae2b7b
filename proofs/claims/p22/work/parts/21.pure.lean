/-! rhythms: d k is the k-th phase, c of them, per their sum -/
def litF (d : Int → Int) : Nat → Int → Int → Bool
  | 0, _, _ => false
  | f + 1, k, r => if r < d k then decide (k % 2 = 0) else litF d f (k + 1) (r - d k)
def sf (d : Int → Int) : Nat → Int → Int
  | 0, _ => 0
  | f + 1, k => d k + sf d f (k + 1)
abbrev ph (G : Nat → Nat → Int) (q : Int) : Int → Int := fun k => G 1 (6 * q + k).toNat
def PV (d : Int → Int) (c : Nat) (per : Int) : Prop := (c = 2 ∨ c = 4 ∨ c = 6) ∧ (∀ k : Int, 0 ≤ k → k < c → 1 ≤ d k ∧ d k ≤ 9) ∧ per = sf d c 0
def lt (d : Int → Int) (c : Nat) (per s : Int) : Bool := litF d c 0 (s % per)
theorem sf_bd {d : Int → Int} {c : Nat} (h : ∀ k : Int, 0 ≤ k → k < c → 1 ≤ d k ∧ d k ≤ 9) : ∀ (f : Nat) (k : Int), 0 ≤ k → k + f ≤ c → (f : Int) ≤ sf d f k ∧ sf d f k ≤ 9 * f := by
  intro f
  induction f with
  | zero => intro k h1 h2; simp [sf]
  | succ f ih =>
    intro k h1 h2
    have h3 := h k h1 (by omega)
    have h4 := ih (k + 1) (by omega) (by omega)
    show _ ≤ d k + sf d f (k + 1) ∧ d k + sf d f (k + 1) ≤ _
    omega
theorem PV.per {d : Int → Int} {c : Nat} {per : Int} (h : PV d c per) : 2 ≤ per ∧ per ≤ 54 := by
  obtain ⟨h1, h2, h3⟩ := h
  have h4 := sf_bd h2 c 0 (by omega) (by omega)
  rw [h3]
  omega
theorem sf_pos {d : Int → Int} {f : Nat} {k r : Int} (h0 : 0 ≤ r) (h : r < sf d f k) : ∃ g, f = g + 1 := by
  cases f with
  | zero => exact absurd h (by simp [sf]; omega)
  | succ g => exact ⟨g, rfl⟩
noncomputable def tb (P : Prop) : Bool := @decide P (Classical.propDecidable P)
theorem tb_iff {P : Prop} : tb P = true ↔ P := by unfold tb; exact @decide_eq_true_iff P (Classical.propDecidable P)
theorem tb_t {P : Prop} (h : P) : tb P = true := tb_iff.mpr h
theorem tb_f {P : Prop} (h : ¬ P) : tb P = false := by
  cases hb : tb P
  · rfl
  · exact absurd (tb_iff.mp hb) h
theorem tb_of {P : Prop} {b : Bool} (h : b = true ↔ P) : b = tb P := by
  cases b
  · exact (tb_f (fun q => by have := h.mpr q; cases this)).symm
  · exact (tb_t (h.mp rfl)).symm
theorem bz_inj {a b : Bool} (h : bz a = bz b) : a = b := by
  cases a <;> cases b <;> simp_all [bz]
abbrev cq (G : Nat → Nat → Int) (q : Int) : Nat := (G 2 q.toNat).toNat
/-- the rhythm of the pattern q, second by second -/
def LQ (G : Nat → Nat → Int) (q : Int) (t : Int) : Bool := lt (ph G q) (cq G q) (G 3 q.toNat) t
def PQ (G : Nat → Nat → Int) (q : Int) : Prop := PV (ph G q) (cq G q) (G 3 q.toNat)
theorem PQ.per {G : Nat → Nat → Int} {q : Int} (h : PQ G q) : 2 ≤ G 3 q.toNat ∧ G 3 q.toNat ≤ 54 := PV.per h
def ALLb (P : Int → Prop) (t : Int) : Prop := ∀ u : Int, 0 ≤ u → u < t → P u
def EXb (P : Int → Prop) (t : Int) : Prop := ∃ u : Int, 0 ≤ u ∧ u < t ∧ P u
theorem ALLb.zero {P : Int → Prop} {t : Int} (h : t ≤ 0) : ALLb P t := fun u h1 h2 => by omega
theorem EXb.zero {P : Int → Prop} {t : Int} (h : t ≤ 0) : ¬ EXb P t := fun ⟨u, h1, h2, _⟩ => by omega
theorem ALLb.succ {P : Int → Prop} {t : Int} (h0 : 0 ≤ t) : ALLb P (t + 1) ↔ ALLb P t ∧ P t := by
  refine ⟨fun q => ⟨fun u hu hu2 => q u hu (by omega), q t h0 (by omega)⟩, fun q u hu hu2 => ?_⟩
  by_cases e : u = t
  · rw [e]; exact q.2
  · exact q.1 u hu (by omega)
theorem EXb.succ {P : Int → Prop} {t : Int} (h0 : 0 ≤ t) : EXb P (t + 1) ↔ EXb P t ∨ P t := by
  constructor
  · rintro ⟨u, h1, h2, h3⟩
    by_cases e : u = t
    · exact Or.inr (e ▸ h3)
    · exact Or.inl ⟨u, h1, by omega, h3⟩
  · rintro (⟨u, h1, h2, h3⟩ | h1)
    · exact ⟨u, h1, by omega, h3⟩
    · exact ⟨t, h0, by omega, h1⟩
theorem ALLb.eq {P : Int → Prop} {t t' : Int} (h : t = t') (q : ALLb P t) : ALLb P t' := h ▸ q
def okR (f : Int → Bool) (per d : Int) : Prop := per % d = 0 ∧ ALLb (fun u => f u = f (u + d)) per
noncomputable def retF (f : Int → Bool) (per : Int) : Nat → Int → Int
  | 0, _ => per
  | k + 1, d => if tb (okR f per d) = true then d else retF f per k (d + 1)
/-- the least number of seconds behind which a rhythm is as it was -/
noncomputable def retn (f : Int → Bool) (per : Int) : Int := retF f per (per - 1).toNat 1
theorem retF_bd (f : Int → Bool) (per : Int) : ∀ (k : Nat) (d : Int), 1 ≤ d → d + k = per → 1 ≤ retF f per k d ∧ retF f per k d ≤ per := by
  intro k
  induction k with
  | zero => intro d h1 h2; show 1 ≤ per ∧ per ≤ per; omega
  | succ k ih =>
    intro d h1 h2
    unfold retF
    split
    · omega
    · exact ih (d + 1) (by omega) (by omega)
theorem retn_bd {f : Int → Bool} {per : Int} (h : 1 ≤ per) : 1 ≤ retn f per ∧ retn f per ≤ per := retF_bd f per _ 1 (by omega) (by omega)
theorem al_t {P : Int → Prop} {A : Prop} {t : Int} {is : Bool} (h0 : 0 ≤ t) (h : is = true ↔ (A ∧ ALLb P t)) (hi : is = true) (hp : P t) : (true = true ↔ (A ∧ ALLb P (t + 1))) :=
  ⟨fun _ => ⟨(h.mp hi).1, (ALLb.succ h0).mpr ⟨(h.mp hi).2, hp⟩⟩, fun _ => rfl⟩
theorem al_f {P : Int → Prop} {A : Prop} {t : Int} (h0 : 0 ≤ t) (hp : ¬ P t) : (false = true ↔ (A ∧ ALLb P (t + 1))) :=
  ⟨fun q => (by cases q), fun q => absurd ((ALLb.succ h0).mp q.2).2 hp⟩
theorem al_and {P : Int → Prop} {t : Int} {is b : Bool} (h0 : 0 ≤ t) (h : is = true ↔ ALLb P t) (hb : b = true ↔ P t) : ((is && b) = true ↔ ALLb P (t + 1)) := by
  rw [Bool.and_eq_true, h, hb, ALLb.succ h0]
theorem ex_or {P : Int → Prop} {t : Int} {is b : Bool} (h0 : 0 ≤ t) (h : is = true ↔ EXb P t) (hb : b = true ↔ P t) : ((is || b) = true ↔ EXb P (t + 1)) := by
  rw [Bool.or_eq_true, h, hb, EXb.succ h0]
theorem bz_and (a b : Bool) : iv (bz a) &&& iv (bz b) = iv (bz (a && b)) := by cases a <;> cases b <;> decide
theorem bz_or (a b : Bool) : iv (bz a) ||| iv (bz b) = iv (bz (a || b)) := by cases a <;> cases b <;> decide
/-- two rhythms are alike, as the reference asks it -/
def AK (f g : Int → Bool) (pf pg : Int) : Prop := retn f pf = retn g pg ∧ EXb (fun t => ALLb (fun u => f (u + t) = g u) (retn f pf)) (retn f pf)
