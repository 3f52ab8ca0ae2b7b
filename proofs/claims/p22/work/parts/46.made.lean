/-! what constructors leave -/
section ROI
variable {p : Program} {l : Launch} {e : Env} {R : Room} {s : State} {m : MethodId} {args : Array Value} {below : List Frame} {meth : Method} {c : Code} {H : Heap} {locs : List Loc} {cells slots : Nat} {Q : State → Prop}
variable {cc : ByteArray} {pc : Nat} {ls : Array Slot} {rest : List Value} {a : Nat} {mL : Nat} {ret : Option FieldType} {own nm : String} {tb : List ExceptionTableEntry}
theorem r_objInit (hC : CTX p s m args meth c cc mL ret own nm tb) (hsz : ls.size = mL) {index : Nat} (hlink : Cond.methodLink own index Lib.objectInit ∈ WALL) (hf : 1 ≤ R.frames) (hl : (rest.map fun v => v.category).sum + 12 ≤ R.locals) (hdg : decode cc pc = .ok (.invokespecial index, 3))
    (kk : W p l e R s m args below meth c H locs cells slots Q (F0 m (pc + 3) ls rest)) : W p l e R s m args below meth c H locs cells slots Q (F0 m pc ls (.ref a :: rest)) :=
  W.objInit (g := F0 m pc ls (.ref a :: rest)) hC.1 hC.2.1 (own := own) hC.2.2.2.1 (hC.2.2.2.2.1 _ hlink) (hC.2.2.2.2.1 _ m_0_17) (hC.2.2.2.2.1 _ m_0_18) rfl (hsz.trans hC.2.2.1.symm) rfl hdg hf (by show 2 * 0 + _ + 12 ≤ _; omega) kk
end ROI
/-- q became what e tells, with a row of its own -/
def MADE (X : va_W) (L : List Nat) (f : Nat → va_E) (q : Nat) (e : Nat → va_E) (P : va_E → Prop) (w : va_W) : Prop :=
  ∃ (f' : Nat → va_E) (si : Nat), si ∉ L ∧ (f' q = e si ∧ P (f' si)) ∧ (∀ b, b ∈ L → b ≠ q → f' b = f b) ∧ w = X ++ va_pl (L ++ [si]) f'
def CHP (ε : EV) (z : va_E) : Prop := ∃ S : Nat → Int, z = eI ε 12 S ∧ ∀ k : Nat, k < 12 → S k = -1
def PAP (ε : EV) (D : Nat → Int) (cy : Int) (z : va_E) : Prop := ∃ E : Nat → Int, z = eI ε cy.toNat E ∧ (∀ k : Int, 0 ≤ k → k < cy → E k.toNat = D k.toNat) ∧ ∀ k, rg (E k)
def LAP (ε : EV) (x y r se : Int) (z : va_E) : Prop := ∃ g : Nat → Int, z = eI ε 32 g ∧ ∀ j : Nat, j < 32 → g j = BW (VIS x y r se j) 32
/-- the rows before r are done, of the row r the first c -/
noncomputable def RWS (V : Int → Int → Prop) (r c : Int) : Nat → Int := fun j => if (j : Int) < r then BW (V j) 32 else if (j : Int) = r then BW (V j) c.toNat else 0
theorem RWS.zero {V : Int → Int → Prop} : RWS V 0 0 = fun _ => 0 := by
  funext j
  unfold RWS
  rw [if_neg (by omega)]
  split
  · rfl
  · rfl
theorem RWS.cur {V : Int → Int → Prop} {r c : Int} (h : 0 ≤ r) : RWS V r c r.toNat = BW (V r) c.toNat := by
  unfold RWS
  rw [if_neg (by omega), if_pos (nt h).symm, ← nt h]
theorem RWS.hit {V : Int → Int → Prop} {r c : Int} (h : 0 ≤ r) (hc : 0 ≤ c) (hv : V r c) : va_up (RWS V r c) r.toNat (BW (V r) c.toNat + 2 ^ c.toNat) = RWS V r (c + 1) := by
  funext j
  unfold va_up RWS
  by_cases e : j = r.toNat
  · rw [if_pos e, if_neg (by omega), if_pos (by omega), BW.succ hc, show ((j : Nat) : Int) = r by omega, if_pos (tb_t hv)]
  · rw [if_neg e, if_neg (show ¬ (j : Int) = r by omega), if_neg (show ¬ (j : Int) = r by omega)]
theorem RWS.miss {V : Int → Int → Prop} {r c : Int} (hc : 0 ≤ c) (hv : ¬ V r c) : RWS V r c = RWS V r (c + 1) := by
  funext j
  unfold RWS
  by_cases e : (j : Int) = r
  · have hz : ¬ (tb (V (j : Int) c) = true) := by rw [e, tb_f hv]; exact Bool.false_ne_true
    rw [if_pos e, if_pos e, BW.succ hc, if_neg hz, Int.add_zero]
  · rw [if_neg e, if_neg e]
theorem RWS.next {V : Int → Int → Prop} {r : Int} : RWS V r 32 = RWS V (r + 1) 0 := by
  funext j
  unfold RWS
  by_cases h1 : (j : Int) < r
  · rw [if_pos h1, if_pos (by omega)]
  · by_cases h2 : (j : Int) = r
    · rw [if_neg h1, if_pos h2, if_pos (by omega)]
      rfl
    · rw [if_neg h1, if_neg h2, if_neg (by omega)]
      split
      · rfl
      · rfl
theorem RWS.done {V : Int → Int → Prop} {c : Int} {j : Nat} (h : j < 32) : RWS V 32 c j = BW (V j) 32 := by
  unfold RWS
  rw [if_pos (by omega)]
