/-! the law's body: what stands through it -/
def ZZ (xs : Nat → Int32) (z : Int) : Int := (xs z.toNat).toInt
theorem ZZ_rg (xs : Nat → Int32) (z : Int) : rg (ZZ xs z) := iv_rg _
/-- the law's context: the script of N ints xs at b, the k-th call -/
def LCX (p : Program) (l : Launch) (s : State) (m : MethodId) (b N : Nat) (xs : Nat → Int32) (meth : Method) (c : Code) (ε : EV) (k : Nat) : Prop :=
  (∃ (nm : String) (tb : List ExceptionTableEntry), CTX p s m #[Value.ref b] meth c code 7 ret RL nm tb) ∧ ENV ε s s.heap ∧ l.stackTraces = false ∧ va_X b N xs s s.heap ∧ b < s.heap.size ∧ ¬ AA ε b ∧ 7 * k + 7 ≤ N ∧ N ≤ 3584
/-- the two sides agree, the out row beside them -/
def LWI (ε : EV) (x k : Nat) (n : Nat → Int) (G : Nat → Nat → Int) (L : List Nat) (f : Nat → va_E) (ρ : Nat → Int) : Prop := INV n G ∧ n 3 ≤ k ∧ RX (IP L f ρ) ε x n G
abbrev LWW (ε : EV) (m0 : Nat) (ad : Nat → Nat) (o : Nat) (n : Nat → Int) (G : Nat → Nat → Int) (g : Nat → Int) (L : List Nat) (f : Nat → va_E) : va_W := wM ε m0 ad n G ++ ([(o, eJ ε 1 g)] ++ va_pl L f)
abbrev LLO (b x m0 o k : Nat) : List (Nat × Value) := [(4, .int (iv (7 * (k : Int)))), (0, .ref b), (1, .ref x), (2, .ref m0), (3, .ref o)]
/-- at pc with the k-th call begun, j calls done -/
def LAT (p : Program) (l : Launch) (e : Env) (s : State) (m : MethodId) (b : Nat) (below : List Frame) (meth : Method) (c : Code) (ε : EV) (x m0 : Nat) (ad : Nat → Nat) (o : Nat) (Q : State → Prop) (pc k j : Nat) : Prop :=
  ∀ (n : Nat → Int) (G : Nat → Nat → Int) (g : Nat → Int) (L : List Nat) (f : Nat → va_E) (ρ : Nat → Int) (H : Heap) (locs : List Loc) (ls : Array Slot), LWI ε x j n G L f ρ → WP ε (LWW ε m0 ad o n G g L f) H → WD ε (LWW ε m0 ad o n G g L f) → WS ε s.heap H locs → lv_has ls 7 (LLO b x m0 o k) →
    W p l e room_1 s m #[Value.ref b] below meth c H locs (40 + 20 * j) (5000 + 3400 * j) Q (F0 m pc ls [])
theorem wM_out {ε : EV} {m : Nat} {ad : Nat → Nat} {n : Nat → Int} {G : Nat → Nat → Int} {o : Nat} {e : va_E} {Y : va_W} : In (wM ε m ad n G ++ ([(o, e)] ++ Y)) o e := ⟨15, rfl⟩
theorem rg1 : rg 1 := ⟨by decide, by decide⟩
theorem cmpI_self (a : Int) : cmpI a a = 0 := by
  unfold cmpI
  rw [if_neg (Int.lt_irrefl a), if_pos rfl]
section SL
variable {p : Program} {l : Launch} {e : Env} {R : Room} {s : State} {m : MethodId} {args : Array Value} {below : List Frame} {meth : Method} {c : Code} {H H0 : Heap} {locs : List Loc} {cells slots : Nat} {Q : State → Prop}
variable {cc : ByteArray} {pc : Nat} {ls : Array Slot} {rest : List Value} {ε : EV} {mL : Nat} {ret : Option FieldType} {own nm : String} {tb : List ExceptionTableEntry}
theorem r_sld (hC : CTX p s m args meth c cc mL ret own nm tb) {b N : Nat} {xs : Nat → Int32} (hX : va_X b N xs s H0) (hbl : b < H0.size) (hbA : ¬ AA ε b) (hS : WS ε H0 H locs) {z v : Int} (hz : 0 ≤ z ∧ z < N ∧ N ≤ 3584) (hv : v = ZZ xs z) (hdg : decode cc pc = .ok (.iaload, 1))
    (kk : W p l e R s m args below meth c H locs cells slots Q (F0 m (pc + 1) ls (.int (iv v) :: rest))) : W p l e R s m args below meth c H locs cells slots Q (F0 m pc ls (.int (iv z) :: .ref b :: rest)) := by
  refine va_sld hC.1 hC.2.1 hX hbl hbA hS (iv_in hz.1 hz.2.1 (by omega)) hdg ?_
  rw [iv_clamp ⟨by omega, by omega⟩, iv_of (xs z.toNat), show (xs z.toNat).toInt = v from hv.symm]
  exact kk
theorem r_slen (hC : CTX p s m args meth c cc mL ret own nm tb) {b N : Nat} {xs : Nat → Int32} (hX : va_X b N xs s H0) (hbl : b < H0.size) (hbA : ¬ AA ε b) (hS : WS ε H0 H locs) (hdg : decode cc pc = .ok (.arraylength, 1))
    (kk : W p l e R s m args below meth c H locs cells slots Q (F0 m (pc + 1) ls (.int (iv (N : Int)) :: rest))) : W p l e R s m args below meth c H locs cells slots Q (F0 m pc ls (.ref b :: rest)) := by
  refine va_slen hC.1 hC.2.1 hX hbl hbA hS hdg ?_
  rw [iv_nat] at kk
  exact kk
end SL
