/-! what the library does with rows: copies, lengths, the smaller, the larger -/
def mx (a b : Int) : Int := if a < b then b else a
theorem up_up {α : Type} (f : Nat → α) (k : Nat) (v w : α) : va_up (va_up f k v) k w = va_up f k w := by
  funext j
  unfold va_up
  split <;> rfl
theorem iv_min {a b : Int} (ha : rg a) (hb : rg b) : (if iv b < iv a then iv b else iv a) = iv (mn a b) := by
  have h := iv_lt hb ha
  unfold mn
  by_cases z : b < a
  · rw [if_pos (h.mpr z), if_neg (by omega)]
  · rw [if_neg (fun q => z (h.mp q)), if_pos (by omega)]
theorem iv_max {a b : Int} (ha : rg a) (hb : rg b) : (if iv a < iv b then iv b else iv a) = iv (mx a b) := by
  have h := iv_lt ha hb
  unfold mx
  by_cases z : a < b
  · rw [if_pos (h.mpr z), if_pos z]
  · rw [if_neg (fun q => z (h.mp q)), if_neg z]
section RW4
variable {p : Program} {l : Launch} {e : Env} {R : Room} {s : State} {m : MethodId} {args : Array Value} {below : List Frame} {meth : Method} {c : Code} {H H0 : Heap} {locs : List Loc} {cells slots : Nat} {Q : State → Prop}
variable {cc : ByteArray} {pc : Nat} {ls : Array Slot} {rest : List Value} {ε : EV} {ws X : va_W} {L : List Nat} {f : Nat → va_E} {a : Nat} {mL : Nat} {ret : Option FieldType} {own nm : String} {tb : List ExceptionTableEntry}
theorem r_min (hC : CTX p s m args meth c cc mL ret own nm tb) (hsz : ls.size = mL) {index : Nat} (hlink : Cond.methodLink own index Lib.Math.min.name ∈ WALL) (hf : 1 ≤ R.frames) (hl : (rest.map fun v => v.category).sum + 13 ≤ R.locals) (hc : cells ≤ R.cells) (hs : slots ≤ R.slots) {x y : Int} (rx : rg x) (ry : rg y) (hdg : decode cc pc = .ok (.invokestatic index, 3))
    (kk : W p l e R s m args below meth c H locs cells slots Q (F0 m (pc + 3) ls (.int (iv (mn x y)) :: rest))) : W p l e R s m args below meth c H locs cells slots Q (F0 m pc ls (.int (iv y) :: .int (iv x) :: rest)) := by
  refine va_mmin hC.1 hC.2.1 (hC.2.2.1.trans hsz.symm) (own := own) hC.2.2.2.1 (hC.2.2.2.2.1 _ hlink) (hC.2.2.2.2.1 _ m_6_2) (hC.2.2.2.2.1 _ m_6_3) (hC.2.2.2.2.1 _ m_6_4) hf hl hc hs hdg ?_
  rw [iv_min rx ry]
  exact kk
theorem r_max (hC : CTX p s m args meth c cc mL ret own nm tb) (hsz : ls.size = mL) {index : Nat} (hlink : Cond.methodLink own index Lib.Math.max.name ∈ WALL) (hf : 1 ≤ R.frames) (hl : (rest.map fun v => v.category).sum + 13 ≤ R.locals) (hc : cells ≤ R.cells) (hs : slots ≤ R.slots) {x y : Int} (rx : rg x) (ry : rg y) (hdg : decode cc pc = .ok (.invokestatic index, 3))
    (kk : W p l e R s m args below meth c H locs cells slots Q (F0 m (pc + 3) ls (.int (iv (mx x y)) :: rest))) : W p l e R s m args below meth c H locs cells slots Q (F0 m pc ls (.int (iv y) :: .int (iv x) :: rest)) := by
  refine va_mmax hC.1 hC.2.1 (hC.2.2.1.trans hsz.symm) (own := own) hC.2.2.2.1 (hC.2.2.2.2.1 _ hlink) (hC.2.2.2.2.1 _ m_7_16) (hC.2.2.2.2.1 _ m_6_3) (hC.2.2.2.2.1 _ m_7_17) hf hl hc hs hdg ?_
  rw [iv_max rx ry]
  exact kk
theorem r_alenT (hC : CTX p s m args meth c cc mL ret own nm tb) (hE : ENV ε s H0) (hS : WS ε H0 H locs) (hdg : decode cc pc = .ok (.arraylength, 1))
    (kk : W p l e R s m args below meth c H locs cells slots Q (F0 m (pc + 1) ls (.int (iv 0) :: rest))) : W p l e R s m args below meth c H locs cells slots Q (F0 m pc ls (.ref (ε.2.2.2 0) :: rest)) := by
  obtain ⟨cell, h1, h2, h3, h4, h5, -⟩ := hE.2.2.2.2.2.1.kept hS.2.1
  exact W.alen (n := iv 0) hC.1 hC.2.1 h1 h2 h5 rfl rfl hdg kk
theorem cpy_iv (d g : Nat → Int) (n : Nat) : va_cpy (fun j => iv (d j)) (fun j => iv (g j)) 0 0 n = fun j => iv (va_cpy d g 0 0 n j) := by
  funext j
  unfold va_cpy
  split <;> rfl
theorem p_copyi (hC : CTX p s m args meth c cc mL ret own nm tb) (hsz : ls.size = mL) (hK : WK ε s) (hP : WP ε (X ++ va_pl L f) H) (hD : WD ε (X ++ va_pl L f)) (hS : WS ε H0 H locs) {index a0 n0 n1 : Nat} {d g : Nat → Int} (h0 : In (X ++ va_pl L f) a0 (eI ε n0 d)) (ha : a ∈ L) (hf : f a = eI ε n1 g) {n : Int} (hn : 0 ≤ n ∧ n ≤ n0 ∧ n ≤ n1) (hn9 : n0 < 100000) (hlink : Cond.methodLink own index arraycopyName ∈ WALL) (hfr : 1 ≤ R.frames) (hl : (rest.map fun v => v.category).sum + 40 ≤ R.locals) (hdg : decode cc pc = .ok (.invokestatic index, 3))
    (kk : ∀ (H1 : Heap) (locs1 : List Loc), WP ε (X ++ va_pl L (va_up f a (eI ε n1 (va_cpy d g 0 0 n.toNat)))) H1 → WD ε (X ++ va_pl L (va_up f a (eI ε n1 (va_cpy d g 0 0 n.toNat)))) → WS ε H0 H1 locs1 → W p l e R s m args below meth c H1 locs1 cells slots Q (F0 m (pc + 3) ls rest)) : W p l e R s m args below meth c H locs cells slots Q (F0 m pc ls (.int (iv n) :: .int (iv 0) :: .ref a :: .int (iv 0) :: .ref a0 :: rest)) := by
  obtain ⟨q, hq⟩ := va_pl_get (X := X) (f := f) ha
  obtain ⟨q0, hq0⟩ := h0
  have hc : (iv n).toNatClampNeg = n.toNat := iv_clamp ⟨by omega, by omega⟩
  have hz : (iv 0).toNatClampNeg = 0 := by decide
  have h9 : ¬ iv n < 0 := fun z => by
    have z2 := (iv_lt (a := n) (b := 0) ⟨by omega, by omega⟩ ⟨by omega, by omega⟩).mp z
    omega
  refine va_copyi hC.1 hC.2.1 (hC.2.2.1.trans hsz.symm) (own := own) hC.2.2.2.1 (hC.2.2.2.2.1 _ hlink) (hC.2.2.2.2.1 _ m_6_6) (hC.2.2.2.2.1 _ m_6_7) (hC.2.2.2.2.1 _ m_6_8) hK hP hD hS q0 q 0 0 hq0 (by rw [hq, hf]) rfl rfl rfl (by decide) (by decide) h9 (by rw [hz, hc]; omega) (by rw [hz, hc]; omega) (fun i hi => rfl) hfr (Nat.le_trans (Nat.add_le_add_left (by decide) _) hl) hdg (fun H1 locs1 h1 h2 h3 => ?_)
  rw [hc, hz, cpy_iv, va_pl_set hD ha hq] at h1 h2
  exact kk H1 locs1 h1 h2 h3
theorem p_copyo (hC : CTX p s m args meth c cc mL ret own nm tb) (hsz : ls.size = mL) (hE : ENV ε s H0) (hP : WP ε (X ++ va_pl L f) H) (hD : WD ε (X ++ va_pl L f)) (hS : WS ε H0 H locs) {index a0 n0 n1 ci : Nat} {d g : Nat → Option Nat} {r : vw_C} (h0 : In (X ++ va_pl L f) a0 (eO ε n0 d)) (ha : a ∈ L) (hf : f a = eO ε n1 g) {n : Int} (hn : 0 ≤ n ∧ n ≤ n0 ∧ n ≤ n1) (hn9 : n0 < 100000) (hc9 : vwCl[ci]? = some r) (hcast : Cond.castable r.1 nObj ∈ castW) (hel : ∀ i : Nat, (i : Int) < n → ∀ y : Nat, d i = some y → ∃ fs, In (X ++ va_pl L f) y (.inr (ci, fs))) (hlink : Cond.methodLink own index arraycopyName ∈ WALL) (hfr : 1 ≤ R.frames) (hl : (rest.map fun v => v.category).sum + 40 ≤ R.locals) (hdg : decode cc pc = .ok (.invokestatic index, 3))
    (kk : ∀ (H1 : Heap) (locs1 : List Loc), WP ε (X ++ va_pl L (va_up f a (eO ε n1 (va_cpy d g 0 0 n.toNat)))) H1 → WD ε (X ++ va_pl L (va_up f a (eO ε n1 (va_cpy d g 0 0 n.toNat)))) → WS ε H0 H1 locs1 → W p l e R s m args below meth c H1 locs1 cells slots Q (F0 m (pc + 3) ls rest)) : W p l e R s m args below meth c H locs cells slots Q (F0 m pc ls (.int (iv n) :: .int (iv 0) :: .ref a :: .int (iv 0) :: .ref a0 :: rest)) := by
  have hK := hE.K
  obtain ⟨q, hq⟩ := va_pl_get (X := X) (f := f) ha
  obtain ⟨q0, hq0⟩ := h0
  have hc : (iv n).toNatClampNeg = n.toNat := iv_clamp ⟨by omega, by omega⟩
  have hz : (iv 0).toNatClampNeg = 0 := by decide
  have h9 : ¬ iv n < 0 := fun z => by
    have z2 := (iv_lt (a := n) (b := 0) ⟨by omega, by omega⟩ ⟨by omega, by omega⟩).mp z
    omega
  obtain ⟨C0, T0, hCT, hNw⟩ := hE.2.2.1 _ hcast
  cases hCT
  have hasg : ∀ comp c0 : ClassId, s.vm.findClass nObj = some comp → s.vm.findClass r.1 = some c0 → s.vm.assignable c0 comp = true := fun comp c0 g1 g2 => by
    obtain ⟨c1, t1, f1, f2, f3⟩ := Cond.castable_spec (va_Nw.use (A := args) rfl hNw)
    rw [Option.some.inj (g2.symm.trans f1), Option.some.inj (g1.symm.trans f2)]
    exact f3
  refine va_copyq hC.1 hC.2.1 (hC.2.2.1.trans hsz.symm) (own := own) hC.2.2.2.1 (hC.2.2.2.2.1 _ hlink) (hC.2.2.2.2.1 _ m_6_6) (hC.2.2.2.2.1 _ m_6_7) (hC.2.2.2.2.1 _ m_6_8) hK hP hD hS q0 q 1 1 (C := r.1) hq0 (by rw [hq, hf]) rfl rfl (by decide) (by decide) h9 (by rw [hz, hc]; omega) (by rw [hz, hc]; omega) (fun i hi y hy => ?_) hasg hfr (Nat.le_trans (Nat.add_le_add_left (by decide) _) hl) hdg (fun H1 locs1 h1 h2 h3 => ?_)
  · rw [hz, Nat.zero_add] at hy
    obtain ⟨fs, ky, hky⟩ := hel i (by rw [hc] at hi; omega) y hy
    obtain ⟨C, T, N⟩ := r
    exact va_recv hK hP hc9 hky
  · rw [hc, hz, va_pl_set hD ha hq] at h1 h2
    exact kk H1 locs1 h1 h2 h3
end RW4
