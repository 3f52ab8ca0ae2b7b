/-! copies whole, classes of arrays -/
section RW5
variable {p : Program} {l : Launch} {e : Env} {R : Room} {s : State} {m : MethodId} {args : Array Value} {below : List Frame} {meth : Method} {c : Code} {H H0 : Heap} {locs : List Loc} {cells slots : Nat} {Q : State → Prop}
variable {cc : ByteArray} {pc : Nat} {ls : Array Slot} {rest : List Value} {ε : EV} {ws X : va_W} {L : List Nat} {f : Nat → va_E} {a : Nat} {mL : Nat} {ret : Option FieldType} {own nm : String} {tb : List ExceptionTableEntry}
theorem p_cloneI (hC : CTX p s m args meth c cc mL ret own nm tb) (hsz : ls.size = mL) (hE : ENV ε s H0) (hP : WP ε (X ++ va_pl L f) H) (hD : WD ε (X ++ va_pl L f)) (hS : WS ε H0 H locs) {index n : Nat} {g : Nat → Int} (h0 : In (X ++ va_pl L f) a (eI ε n g)) (hlink : Cond.methodLink own index ⟨"[I", "clone", "()Ljava/lang/Object;"⟩ ∈ WALL) (hfr : 1 ≤ R.frames) (hl : (rest.map fun v => v.category).sum + 14 ≤ R.locals) (hcells : cells + 1 ≤ R.cells) (hslots : slots + n ≤ R.slots) (hdg : decode cc pc = .ok (.invokevirtual index, 3))
    (kk : ∀ (q : Nat) (H1 : Heap), q ∉ L → WP ε (X ++ va_pl (L ++ [q]) (va_up f q (eI ε n g))) H1 → WD ε (X ++ va_pl (L ++ [q]) (va_up f q (eI ε n g))) → WS ε H0 H1 locs → W p l e R s m args below meth c H1 locs (cells + 1) (slots + n) Q (F0 m (pc + 3) ls (.ref q :: rest))) : W p l e R s m args below meth c H locs cells slots Q (F0 m pc ls (.ref a :: rest)) := by
  obtain ⟨k0, hk0⟩ := h0
  have hK := hE.K
  obtain ⟨C0, T0, hCT, hNw⟩ := hE.2.2.1 (.castable "[I" "java/lang/Cloneable") (by decide)
  cases hCT
  refine va_clone hC.1 hC.2.1 (hC.2.2.1.trans hsz.symm) (own := own) (ad := "[I") hC.2.2.2.1 (hC.2.2.2.2.1 _ hlink) (hC.2.2.2.2.1 _ m_5_21) (hC.2.2.2.2.1 _ m_5_22) (hC.2.2.2.2.1 _ m_5_23) (hC.2.2.2.2.1 _ m_5_24) hNw hK hP hD hS hE.A k0 0 hk0 rfl (hK.2 0 _ rfl).2 (fun i v hv => ?_) hfr hl hcells hslots hdg (fun q H1 _ h1 h2 h3 => ?_)
  · rw [vp_cell_i] at hv
    obtain ⟨hlt, hv2⟩ := Array.getElem?_eq_some_iff.mp hv
    have hlt2 : i < n := by rw [arrV_size] at hlt; exact hlt
    rw [arrV_read _ _ hlt2] at hv
    rw [← Option.some.inj hv]
    rfl
  · obtain ⟨h4, h5⟩ := p_push h2
    rw [h5] at h1 h2
    exact kk q H1 h4 h1 h2 h3
theorem r_castI (hC : CTX p s m args meth c cc mL ret own nm tb) (hK : WK ε s) (hP : WP ε ws H) {index n : Nat} {g : Nat → Int} (h0 : In ws a (eI ε n g)) (hlink : Cond.classLink own index "[I" ∈ WALL) (hdg : decode cc pc = .ok (.checkcast index, 3))
    (kk : W p l e R s m args below meth c H locs cells slots Q (F0 m (pc + 3) ls (.ref a :: rest))) : W p l e R s m args below meth c H locs cells slots Q (F0 m pc ls (.ref a :: rest)) := by
  obtain ⟨k0, hk0⟩ := h0
  exact va_castA hC.1 hC.2.1 (own := own) hC.2.2.2.1 (hC.2.2.2.2.1 _ hlink) hP k0 hk0 (hK.2 0 _ rfl).2 hdg kk
theorem r_mirror (hC : CTX p s m args meth c cc mL ret own nm tb) (hE : ENV ε s H0) {index : Nat} (hlink : Cond.classLink own index "[Ljava/lang/Object;" ∈ WALL) (hdg : decode cc pc = .ok (.ldc index, 2))
    (kk : W p l e R s m args below meth c H locs cells slots Q (F0 m (pc + 2) ls (.ref (ε.2.2.2 1) :: rest))) : W p l e R s m args below meth c H locs cells slots Q (F0 m pc ls rest) :=
  va_ldcM hC.1 hC.2.1 (own := own) hC.2.2.2.1 (hC.2.2.2.2.1 _ hlink) hE.2.2.2.2.2.2.2.2.1 hdg kk
theorem r_getCO (hC : CTX p s m args meth c cc mL ret own nm tb) (hsz : ls.size = mL) (hE : ENV ε s H0) (hP : WP ε ws H) {index n : Nat} {g : Nat → Option Nat} (h0 : In ws a (eO ε n g)) (hlink : Cond.methodLink own index ⟨"java/lang/Object", "getClass", "()Ljava/lang/Class;"⟩ ∈ WALL) (hfr : 1 ≤ R.frames) (hl : (rest.map fun v => v.category).sum + 14 ≤ R.locals) (hdg : decode cc pc = .ok (.invokevirtual index, 3))
    (kk : W p l e R s m args below meth c H locs cells slots Q (F0 m (pc + 3) ls (.ref (ε.2.2.2 1) :: rest))) : W p l e R s m args below meth c H locs cells slots Q (F0 m pc ls (.ref a :: rest)) := by
  obtain ⟨k0, hk0⟩ := h0
  obtain ⟨-, -, -, -, -, hfc⟩ := (hE.K.2 1 _ rfl).2
  exact va_getC hC.1 hC.2.1 (hC.2.2.1.trans hsz.symm) (own := own) (C := "[Ljava/lang/Object;") hC.2.2.2.1 (hC.2.2.2.2.1 _ hlink) (va_Dc.use hE.2.2.2.2.2.2.2.2.2.1) (hC.2.2.2.2.1 _ m_8_7) (hC.2.2.2.2.1 _ m_8_8) (hC.2.2.2.2.1 _ m_8_9) hE.2.2.2.2.2.2.2.2.1 ⟨_, hP k0 _ hk0, rfl, hfc⟩ hfr hl hdg kk
theorem r_empty (hC : CTX p s m args meth c cc mL ret RJx4a65c nm tb) (hE : ENV ε s s.heap) (hS : WS ε s.heap H locs) (hdg : decode cc pc = .ok (.getstatic 39, 3))
    (kk : W p l e R s m args below meth c H locs cells slots Q (F0 m (pc + 3) ls (.ref (ε.2.2.2 0) :: rest))) : W p l e R s m args below meth c H locs cells slots Q (F0 m pc ls rest) :=
  va_gets hC.1 hC.2.1 (own := RJx4a65c) hE.2.2.2.2.1 hS hC.2.2.2.1 (hC.2.2.2.2.1 _ m_1_7) (fun _ h => h) hdg kk
end RW5
theorem up_id {α : Type} (f : Nat → α) (k : Nat) : va_up f k (f k) = f := by
  funext j
  unfold va_up
  split
  · rename_i h; rw [h]
  · rfl
/-- filled with v as far as k -/
def FLL (g : Nat → Int) (v k : Int) : Nat → Int := fun j => if (j : Int) < k then v else g j
theorem FLL.zero {g : Nat → Int} {v : Int} : FLL g v 0 = g := by
  funext j
  unfold FLL
  rw [if_neg (by omega)]
theorem FLL.succ {g : Nat → Int} {v k : Int} (h : 0 ≤ k) : va_up (FLL g v k) k.toNat v = FLL g v (k + 1) := by
  funext j
  unfold va_up FLL
  by_cases e : j = k.toNat
  · rw [if_pos e, if_pos (by omega)]
  · rw [if_neg e]
    by_cases z : (j : Int) < k
    · rw [if_pos z, if_pos (by omega)]
    · rw [if_neg z, if_neg (by omega)]
theorem cpy_at {α : Type} {d g : Nat → α} {n k : Nat} (h : k < n) : va_cpy d g 0 0 n k = d k := by
  unfold va_cpy
  rw [if_pos ⟨Nat.zero_le _, by omega⟩, Nat.zero_add, Nat.sub_zero]
theorem cpy_rg {d g : Nat → Int} {n : Nat} (hd : ∀ k, rg (d k)) (hg : ∀ k, rg (g k)) : ∀ k, rg (va_cpy d g 0 0 n k) := fun k => by
  unfold va_cpy
  split
  · exact hd _
  · exact hg k
theorem rg0 : rg 0 := ⟨by decide, by decide⟩
theorem iv_sshr1 {a : Int} (ha : 0 ≤ a ∧ a < 2147483648) : iv a >>> (iv 1 &&& 31) = iv (a / 2) := iv_sshr ha ⟨by decide, by decide⟩
/-- a list's row has grown -/
def GROWN (ε : EV) (X : va_W) (L : List Nat) (f : Nat → va_E) (al : Nat) (md n : Int) (c : Nat) (d : Nat → Option Nat) (v : Option Value) (w : va_W) : Prop :=
  ∃ (q : Nat) (g : Nat → Option Nat) (m : Nat), q ∉ L ∧ ((c : Int) + 1 ≤ m ∧ m ≤ 900) ∧ (∀ k : Int, 0 ≤ k → k < c → g k.toNat = d k.toNat) ∧ v = some (.ref q) ∧ w = X ++ va_pl (L ++ [q]) (va_up (va_up f q (eO ε m g)) al (oAL md q n))
/-- x was added to a list -/
def ADDED (ε : EV) (X : va_W) (L : List Nat) (f : Nat → va_E) (al ed : Nat) (md n : Int) (x : Nat) (d : Nat → Option Nat) (w : va_W) : Prop :=
  ∃ (L' : List Nat) (f' : Nat → va_E) (ed' cap' : Nat) (g' : Nat → Option Nat), ((L' = L ∧ ed' = ed ∧ ed ∈ L) ∨ (L' = L ++ [ed'] ∧ ed' ∉ L)) ∧ (f' al = oAL md ed' (n + 1) ∧ f' ed' = eO ε cap' g') ∧ (∀ b, b ∈ L → b ≠ al → b ≠ ed → f' b = f b) ∧ (n + 1 ≤ cap' ∧ cap' ≤ 900) ∧ (∀ k : Int, 0 ≤ k → k < n → g' k.toNat = d k.toNat) ∧ g' n.toNat = some x ∧ w = X ++ va_pl L' f'
theorem ADDED.up {ε : EV} {X : va_W} {L : List Nat} {f : Nat → va_E} {al ed : Nat} {md n : Int} {x : Nat} {d : Nat → Option Nat} {w : va_W} {e0 : va_E} (h : ADDED ε X L (va_up f al e0) al ed md n x d w) : ADDED ε X L f al ed md n x d w := by
  obtain ⟨L', f', ed', cap', g', h1, h2, h3, h4⟩ := h
  exact ⟨L', f', ed', cap', g', h1, h2, fun b q1 q2 q3 => (h3 b q1 q2 q3).trans (va_up_ne _ _ q2), h4⟩
theorem up_at {α : Type} {g : Nat → α} {k : Nat} {v : α} : va_up g k v k = v := va_up_self _ _ _
theorem up_no {α : Type} {g : Nat → α} {k : Nat} {j : Int} {n : Int} {v : α} (hk : k = n.toNat) (h1 : 0 ≤ j) (h2 : j < n) : va_up g k v j.toNat = g j.toNat := va_up_ne _ _ (by omega)
