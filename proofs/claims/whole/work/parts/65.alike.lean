/-! rhythms alike: second by second, or by the least period -/
def PD (f : Int → Bool) (p : Int) : Prop := ∀ u, f (u + p) = f u
theorem PD.mulN {f : Int → Bool} {p : Int} (h : PD f p) (u : Int) : ∀ k : Nat, f (u + p * k) = f u := by
  intro k
  induction k with
  | zero => rw [show u + p * ((0 : Nat) : Int) = u by rw [Int.natCast_zero, Int.mul_zero, Int.add_zero]]
  | succ k ih => rw [show u + p * ((k + 1 : Nat) : Int) = (u + p * k) + p by rw [Int.natCast_add, Int.natCast_one, Int.mul_add, Int.mul_one, Int.add_assoc], h, ih]
theorem PD.mod {f : Int → Bool} {p : Int} (h : PD f p) (hp : 0 < p) (u : Int) (hu : 0 ≤ u) : f (u % p) = f u := by
  have h1 := h.mulN (u % p) (u / p).toNat
  have h2 : 0 ≤ u / p := Int.ediv_nonneg hu (by omega)
  rw [← nt h2, Int.emod_add_mul_ediv] at h1
  exact h1.symm
theorem PD.rem {f : Int → Bool} {p q : Int} (h : PD f p) (k : PD f q) (hp : 0 < p) (hq : 0 ≤ q) : PD f (q % p) := fun u => by
  have h1 := h.mulN (u + q % p) (q / p).toNat
  have h2 : 0 ≤ q / p := Int.ediv_nonneg hq (by omega)
  rw [← nt h2, Int.add_assoc, Int.emod_add_mul_ediv, k u] at h1
  exact h1.symm
theorem PD.least {f : Int → Bool} : ∀ (b : Nat) (p : Int), 0 < p → p ≤ b → PD f p → ∃ m : Int, (0 < m ∧ m ≤ p) ∧ PD f m ∧ ∀ q : Int, 0 < q → PD f q → q % m = 0 := by
  intro b
  induction b with
  | zero => intro p h1 h2; omega
  | succ b ih =>
    intro p h1 h2 h3
    by_cases hall : ∀ q : Int, 0 < q → PD f q → q % p = 0
    · exact ⟨p, ⟨h1, Int.le_refl p⟩, h3, hall⟩
    · have hex : ∃ q : Int, 0 < q ∧ PD f q ∧ ¬ q % p = 0 := by
        apply Classical.byContradiction
        intro hn
        exact hall fun q a b => Classical.byContradiction fun c => hn ⟨q, a, b, c⟩
      obtain ⟨q, k1, k2, k3⟩ := hex
      have b1 := Int.emod_nonneg q (show p ≠ 0 by omega)
      have b2 := Int.emod_lt_of_pos q h1
      obtain ⟨m, z1, z2⟩ := ih (q % p) (by omega) (by omega) (h3.rem k2 h1 (by omega))
      exact ⟨m, ⟨z1.1, by omega⟩, z2⟩
theorem okR_iff {f : Int → Bool} {per d : Int} (h : PD f per) (hper : 0 < per) (hall : ∀ u, f (u % per) = f u) : okR f per d ↔ per % d = 0 ∧ PD f d := by
  unfold okR
  refine and_congr_right (fun _ => ⟨fun q u => ?_, fun q u _ _ => (q u).symm⟩)
  have h1 := q (u % per) (Int.emod_nonneg u (by omega)) (Int.emod_lt_of_pos u hper)
  dsimp only at h1
  rw [hall u] at h1
  rw [h1, ← hall (u + d), ← hall (u % per + d), Int.emod_add_emod]
theorem retF_spec {f : Int → Bool} {per : Int} (hok : okR f per per) : ∀ (k : Nat) (d : Int), d + k = per → okR f per (retF f per k d) ∧ d ≤ retF f per k d ∧ ∀ e, d ≤ e → e < retF f per k d → ¬ okR f per e := by
  intro k
  induction k with
  | zero => intro d h; exact ⟨hok, by show d ≤ per; omega, fun e a b => by have b' : e < per := b; omega⟩
  | succ k ih =>
    intro d h
    unfold retF
    by_cases e : okR f per d
    · rw [if_pos (tb_t e)]
      exact ⟨e, Int.le_refl d, fun e a b => by omega⟩
    · rw [if_neg (by rw [tb_f e]; exact Bool.false_ne_true)]
      obtain ⟨z1, z2, z3⟩ := ih (d + 1) (by omega)
      refine ⟨z1, by omega, fun w a b => ?_⟩
      by_cases ew : w = d
      · rw [ew]; exact e
      · exact z3 w (by omega) b
theorem retn_spec {f : Int → Bool} {per : Int} (h : PD f per) (hper : 0 < per) (hall : ∀ u, f (u % per) = f u) : 0 < retn f per ∧ PD f (retn f per) ∧ ∀ q : Int, 0 < q → PD f q → q % retn f per = 0 := by
  have hok : okR f per per := (okR_iff h hper hall).mpr ⟨Int.emod_self, h⟩
  obtain ⟨z1, z2, z3⟩ := retF_spec hok (per - 1).toNat 1 (by omega)
  obtain ⟨m, k1, k2, k3⟩ := PD.least per.toNat per hper (by omega) h
  have hd := ((okR_iff h hper hall).mp z1).2
  have hm : okR f per m := (okR_iff h hper hall).mpr ⟨k3 per hper h, k2⟩
  have hle : ¬ m < retF f per (per - 1).toNat 1 := fun z => z3 m (by omega) z hm
  have hdm := k3 _ (show 0 < retF f per (per - 1).toNat 1 by omega) hd
  have hdv : m ∣ retF f per (per - 1).toNat 1 := Int.dvd_of_emod_eq_zero hdm
  have hle2 := Int.le_of_dvd (by omega) hdv
  have e : retn f per = m := by show retF f per (per - 1).toNat 1 = m; omega
  rw [e]
  exact ⟨k1.1, k2, k3⟩
theorem AK_secs {f g : Int → Bool} {pf pg : Int} (hf : PD f pf) (hg : PD g pg) (h1 : 0 < pf) (h2 : 0 < pg) (af : ∀ u, f (u % pf) = f u) (ag : ∀ u, g (u % pg) = g u) : SECS f g pf pg ↔ AK f g pf pg := by
  obtain ⟨f1, f2, f3⟩ := retn_spec hf h1 af
  obtain ⟨g1, g2, g3⟩ := retn_spec hg h2 ag
  have hbf := retn_bd (f := f) (per := pf) (by omega)
  constructor
  · rintro ⟨t, t1, t2, t3⟩
    have hpp : 0 < pf * pg := Int.mul_pos h1 h2
    have fpp : PD f (pf * pg) := fun u => by have z := hf.mulN u pg.toNat; rw [← nt (show 0 ≤ pg by omega)] at z; exact z
    have gpp : PD g (pf * pg) := fun u => by have z := hg.mulN u pf.toNat; rw [← nt (show 0 ≤ pf by omega), Int.mul_comm] at z; exact z
    have key : ∀ u, 0 ≤ u → f (u + t) = g u := fun u hu => by
      have z := t3 (u % (pf * pg)) (Int.emod_nonneg u (by omega)) (Int.emod_lt_of_pos u hpp)
      dsimp only at z
      rw [gpp.mod hpp u hu] at z
      rw [← z, ← fpp.mod hpp (u + t) (by omega), ← fpp.mod hpp (u % (pf * pg) + t) (by have := Int.emod_nonneg u (show pf * pg ≠ 0 by omega); omega), Int.emod_add_emod]
    have pos : ∀ {h : Int → Bool} {p : Int}, 0 < p → (∀ u, h (u % p) = h u) → ∀ {q : Int}, 0 ≤ q → (∀ u, 0 ≤ u → h (u + q) = h u) → PD h q := fun {h p} hp ha {q} hq k u => by
      rw [← ha (u + q), ← ha u, ← k (u % p) (Int.emod_nonneg u (by omega)), ← ha (u % p + q), Int.emod_add_emod]
    have hgf : PD g (retn f pf) := pos h2 ag (by omega) (fun u hu => by rw [← key (u + retn f pf) (by omega), ← key u hu, show u + retn f pf + t = u + t + retn f pf by omega, f2])
    have hfg : PD f (retn g pg) := pos h1 af (by omega) (fun u hu => by
      have e1 := key (u + t * (pf - 1)) (by have := Int.mul_nonneg t1 (show 0 ≤ pf - 1 by omega); omega)
      have e2 := key (u + t * (pf - 1) + retn g pg) (by have := Int.mul_nonneg t1 (show 0 ≤ pf - 1 by omega); omega)
      have e3 : u + t * (pf - 1) + t = u + pf * t := by rw [Int.mul_sub, Int.mul_one, Int.mul_comm t pf]; omega
      have e4 : u + t * (pf - 1) + retn g pg + t = u + retn g pg + pf * t := by omega
      have p1 := hf.mulN u t.toNat
      have p2 := hf.mulN (u + retn g pg) t.toNat
      rw [← nt t1] at p1 p2
      rw [e3, p1] at e1
      rw [e4, p2, g2] at e2
      rw [e2, e1])
    have d1 := Int.le_of_dvd f1 (Int.dvd_of_emod_eq_zero (g3 _ f1 hgf))
    have d2 := Int.le_of_dvd g1 (Int.dvd_of_emod_eq_zero (f3 _ g1 hfg))
    refine ⟨by omega, t % retn f pf, Int.emod_nonneg t (by omega), Int.emod_lt_of_pos t f1, fun u a b => ?_⟩
    dsimp only
    rw [← f2.mod f1 (u + t % retn f pf) (by have := Int.emod_nonneg t (show retn f pf ≠ 0 by omega); omega), Int.add_emod_emod, f2.mod f1 (u + t) (by omega), key u a]
  · rintro ⟨e, t, t1, t2, t3⟩
    refine ⟨t, t1, by omega, fun u a b => ?_⟩
    dsimp only
    have z := t3 (u % retn f pf) (Int.emod_nonneg u (by omega)) (Int.emod_lt_of_pos u f1)
    dsimp only at z
    have z2 : g (u % retn f pf) = g u := by rw [e]; exact g2.mod g1 u a
    rw [z2] at z
    rw [← z, ← f2.mod f1 (u + t) (by omega), ← f2.mod f1 (u % retn f pf + t) (by have := Int.emod_nonneg u (show retn f pf ≠ 0 by omega); omega), Int.emod_add_emod]
