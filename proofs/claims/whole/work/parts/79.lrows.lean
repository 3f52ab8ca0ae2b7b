/-! the law's calls: what is caught, what is put into the out row -/
theorem set_mid {α : Type} (a b : α) (Y : List α) : ∀ R9 : List α, ((R9 ++ [a]) ++ Y).set R9.length b = (R9 ++ [b]) ++ Y
  | [] => rfl
  | h :: t => congrArg (List.cons h) (set_mid a b Y t)
theorem get_mid {α : Type} (a : α) (Y : List α) : ∀ R9 : List α, ((R9 ++ [a]) ++ Y)[R9.length]? = some a
  | [] => rfl
  | _ :: t => get_mid a Y t
/-- the class's world behind the rest R9 and the out row -/
def LOK (ε : EV) (R9 : va_W) (o x : Nat) (g : Nat → Int) (n : Nat → Int) (G : Nat → Nat → Int) (w : va_W) : Prop := ∃ (L2 : List Nat) (f2 : Nat → va_E) (ρ2 : Nat → Int), w = (R9 ++ [(o, eJ ε 1 g)]) ++ va_pl L2 f2 ∧ RX (IP L2 f2 ρ2) ε x n G
section LR
variable {p : Program} {l : Launch} {e : Env} {R : Room} {s : State} {m : MethodId} {args : Array Value} {below : List Frame} {meth : Method} {c : Code} {H H0 : Heap} {locs : List Loc} {cells slots : Nat} {Q : State → Prop}
variable {cc : ByteArray} {pc : Nat} {ls : Array Slot} {rest : List Value} {ε : EV} {R9 Y : va_W} {o : Nat} {g : Nat → Int} {mL : Nat} {ret : Option FieldType} {own nm : String} {tb : List ExceptionTableEntry}
theorem r_out (hC : CTX p s m args meth c cc mL ret own nm tb) (hK : WK ε s) (hP : WP ε ((R9 ++ [(o, eJ ε 1 g)]) ++ Y) H) (hD : WD ε ((R9 ++ [(o, eJ ε 1 g)]) ++ Y)) (hS : WS ε H0 H locs) {v : Int} (hdg : decode cc pc = .ok (.lastore, 1))
    (kk : ∀ (H1 : Heap) (locs1 : List Loc), WP ε ((R9 ++ [(o, eJ ε 1 (va_up g 0 v))]) ++ Y) H1 → WD ε ((R9 ++ [(o, eJ ε 1 (va_up g 0 v))]) ++ Y) → WS ε H0 H1 locs1 → W p l e R s m args below meth c H1 locs1 cells slots Q (F0 m (pc + 1) ls rest)) : W p l e R s m args below meth c H locs cells slots Q (F0 m pc ls (.long (jv v) :: .int (iv 0) :: .ref o :: rest)) := by
  refine va_last hC.1 hC.2.1 hK hP hD hS R9.length 3 (f := fun j => jv (g j)) (get_mid _ _ _) rfl (iv_in (z := 0) (n := 1) (by decide) (by decide) (by decide)) hdg (fun H1 locs1 h1 h2 h3 => ?_)
  rw [updL_jv (z := 0) ⟨by decide, by decide⟩, set_mid] at h1 h2
  exact kk H1 locs1 h1 h2 h3
theorem c_catch {E : String} {ce : Cell} {q9 : Addr} {pre suf : List ExceptionTableEntry} {xr : ExceptionTableEntry} (hC : CTX p s m args meth c cc mL ret RL nm tb) (hE : ENV ε s s.heap) (hcast : Cond.castable E E ∈ castW) (hmem : E ∈ [nIAE, nISE, nIOE]) (hsplit : tb = pre ++ xr :: suf)
    (hpass : ∀ z ∈ pre, z.catchType ≠ 0 ∧ ∃ b : String, b ∈ [nIAE, nISE, nIOE] ∧ E ≠ b ∧ Cond.classLink RL z.catchType b ∈ WALL) (hx : covers xr pc = true) (h0 : xr.catchType ≠ 0) (hlink : Cond.classLink RL xr.catchType E ∈ WALL) (h1 : H[q9]? = some ce) (h2 : ce.vm = .none) (h3 : s.vm.findClass E = some ce.cls)
    (kk : W p l e R s m args below meth c H locs cells slots Q (F0 m xr.handlerPc ls [.ref q9])) : vx_W p l e R s m args below meth c H locs cells slots Q (F0 m pc ls rest) q9 := by
  obtain ⟨-, -, -, ho, hts, -, -, htb, -⟩ := hC
  obtain ⟨C9, T9, h9, h8⟩ := hE.2.2.1 _ hcast
  cases h9
  refine vx_catch ho pre xr suf (htb.trans hsplit) (fun z hz => Or.inr ?_) hx h0 (hts _ hlink) (va_Nw.use rfl h8) h1 h2 h3 kk
  obtain ⟨k1, b, k2, k3, k4⟩ := hpass z hz
  exact ⟨k1, b, hts _ k4, hE.2.2.2.1 E hmem b k2 k3⟩
end LR
