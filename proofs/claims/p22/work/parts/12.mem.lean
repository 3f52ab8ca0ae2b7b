/-! rows over the heap: any world's cell is read by In; a pool X ++ va_pl L f is written by va_up -/
section RW2
variable {p : Program} {l : Launch} {e : Env} {R : Room} {s : State} {m : MethodId} {args : Array Value} {below : List Frame} {meth : Method} {c : Code} {H H0 : Heap} {locs : List Loc} {cells slots : Nat} {Q : State → Prop}
variable {cc : ByteArray} {pc : Nat} {ls : Array Slot} {rest : List Value} {ε : EV} {ws X : va_W} {L : List Nat} {f : Nat → va_E} {a : Nat} {mL : Nat} {ret : Option FieldType} {own nm : String} {tb : List ExceptionTableEntry}
theorem r_get (hC : CTX p s m args meth c cc mL ret own nm tb) (hK : WK ε s) (hP : WP ε ws H) {ci : Nat} {fs : List Value} {C ref : String} {T : u_T} {N index : Nat} (hi : In ws a (.inr (ci, fs))) (hc : vwCl[ci]? = some (C, T, N)) (hin : ∀ w ∈ u_ws C T N, w ∈ WALL) (k : Nat) (hk : k < N) (hlink : Cond.fieldLink own index ref (T k).2.1 (T k).2.2.1 ∈ WALL) (hsame : ∀ x, s.fieldFound? (T k).1 (T k).2.1 (T k).2.2.1 = some x → s.fieldFound? ref (T k).2.1 (T k).2.2.1 = some x) {v : Value} (hv : fs[k]? = some v) (hdg : decode cc pc = .ok (.getfield index, 3))
    (kk : W p l e R s m args below meth c H locs cells slots Q (F0 m (pc + 3) ls (v :: rest))) : W p l e R s m args below meth c H locs cells slots Q (F0 m pc ls (.ref a :: rest)) := by
  obtain ⟨hx, hb, -, ho, hts, -⟩ := hC
  obtain ⟨q, hq⟩ := hi
  exact va_get (own := own) (ref := ref) (C := C) (T := T) (N := N) (ci := ci) hx hb hts hin ho hK hP q hq hc k hk (hts _ hlink) hsame hv hdg kk
theorem r_iald (hC : CTX p s m args meth c cc mL ret own nm tb) (hK : WK ε s) (hP : WP ε ws H) {n : Nat} {G : Nat → Int} (hi : In ws a (eI ε n G)) {z : Int} (hz : 0 ≤ z ∧ z < n ∧ n ≤ 2147483648) (hdg : decode cc pc = .ok (.iaload, 1))
    (kk : W p l e R s m args below meth c H locs cells slots Q (F0 m (pc + 1) ls (.int (iv (G z.toNat)) :: rest))) : W p l e R s m args below meth c H locs cells slots Q (F0 m pc ls (.int (iv z) :: .ref a :: rest)) := by
  obtain ⟨q, hq⟩ := hi
  refine va_iald hC.1 hC.2.1 hK hP q 0 hq rfl (iv_in hz.1 hz.2.1 hz.2.2) hdg ?_
  rw [iv_clamp ⟨by omega, by omega⟩]
  exact kk
theorem r_aald (hC : CTX p s m args meth c cc mL ret own nm tb) (hK : WK ε s) (hP : WP ε ws H) {n : Nat} {g : Nat → Option Nat} (hi : In ws a (eO ε n g)) {z : Int} (hz : 0 ≤ z ∧ z < n ∧ n ≤ 2147483648) (hdg : decode cc pc = .ok (.aaload, 1))
    (kk : W p l e R s m args below meth c H locs cells slots Q (F0 m (pc + 1) ls (va_rf (g z.toNat) :: rest))) : W p l e R s m args below meth c H locs cells slots Q (F0 m pc ls (.int (iv z) :: .ref a :: rest)) := by
  obtain ⟨q, hq⟩ := hi
  refine va_aldq hC.1 hC.2.1 hK hP q 1 hq rfl (iv_in hz.1 hz.2.1 hz.2.2) hdg ?_
  rw [iv_clamp ⟨by omega, by omega⟩]
  exact kk
theorem r_alenI (hC : CTX p s m args meth c cc mL ret own nm tb) (hK : WK ε s) (hP : WP ε ws H) {n : Nat} {G : Nat → Int} (hi : In ws a (eI ε n G)) (hdg : decode cc pc = .ok (.arraylength, 1))
    (kk : W p l e R s m args below meth c H locs cells slots Q (F0 m (pc + 1) ls (.int (iv n) :: rest))) : W p l e R s m args below meth c H locs cells slots Q (F0 m pc ls (.ref a :: rest)) := by
  obtain ⟨q, hq⟩ := hi
  exact va_alen hC.1 hC.2.1 hK hP q 0 hq rfl (iv_nat n).symm hdg kk
theorem r_alenO (hC : CTX p s m args meth c cc mL ret own nm tb) (hK : WK ε s) (hP : WP ε ws H) {n : Nat} {g : Nat → Option Nat} (hi : In ws a (eO ε n g)) (hdg : decode cc pc = .ok (.arraylength, 1))
    (kk : W p l e R s m args below meth c H locs cells slots Q (F0 m (pc + 1) ls (.int (iv n) :: rest))) : W p l e R s m args below meth c H locs cells slots Q (F0 m pc ls (.ref a :: rest)) := by
  obtain ⟨q, hq⟩ := hi
  exact va_alen hC.1 hC.2.1 hK hP q 1 hq rfl (iv_nat n).symm hdg kk
/-! writes into the pool -/
theorem p_put (hC : CTX p s m args meth c cc mL ret own nm tb) (hK : WK ε s) (hP : WP ε (X ++ va_pl L f) H) (hD : WD ε (X ++ va_pl L f)) (hS : WS ε H0 H locs) (ha : a ∈ L) {ci : Nat} {fs : List Value} {C ref : String} {T : u_T} {N index : Nat} (hf : f a = .inr (ci, fs)) (hc : vwCl[ci]? = some (C, T, N)) (hin : ∀ w ∈ u_ws C T N, w ∈ WALL) (ty0 : Nat → FieldType) (hty : ∀ k, k < N → parseFieldDescriptor (T k).2.2.1 = some (ty0 k)) (hnm : ∀ a, a < N → ∀ b, b < N → a ≠ b → (T a).2.1 ≠ (T b).2.1) (k : Nat) (hk : k < N) (hlink : Cond.fieldLink own index ref (T k).2.1 (T k).2.2.1 ∈ WALL) (hsame : ∀ x, s.fieldFound? (T k).1 (T k).2.1 (T k).2.2.1 = some x → s.fieldFound? ref (T k).2.1 (T k).2.2.1 = some x) (hfin : (T k).2.2.2 = false) {v : Value} (hn : narrow (ty0 k) v = v) (hfit : fits (ty0 k) v = true) (hl : k < fs.length)
    (hdg : decode cc pc = .ok (.putfield index, 3)) (kk : ∀ (H1 : Heap) (locs1 : List Loc), WP ε (X ++ va_pl L (va_up f a (.inr (ci, fs.set k v)))) H1 → WD ε (X ++ va_pl L (va_up f a (.inr (ci, fs.set k v)))) → WS ε H0 H1 locs1 → W p l e R s m args below meth c H1 locs1 cells slots Q (F0 m (pc + 3) ls rest)) : W p l e R s m args below meth c H locs cells slots Q (F0 m pc ls (v :: .ref a :: rest)) := by
  obtain ⟨hx, hb, -, ho, hts, -⟩ := hC
  obtain ⟨q, hq⟩ := va_pl_get (X := X) (f := f) ha
  refine va_put (own := own) (ref := ref) (C := C) (T := T) (N := N) (ci := ci) hx hb hts hin ty0 hty hnm ho hK hP hD hS q (by rw [hq, hf]) hc k hk (hts _ hlink) hsame hfin (hty k hk) hn hfit hl hdg (fun H1 locs1 h1 h2 h3 => ?_)
  rw [va_pl_set hD ha hq] at h1 h2
  exact kk H1 locs1 h1 h2 h3
theorem p_putF (hC : CTX p s m args meth c cc mL ret own nm tb) (hK : WK ε s) (hP : WP ε (X ++ va_pl L f) H) (hD : WD ε (X ++ va_pl L f)) (hS : WS ε H0 H locs) (ha : a ∈ L) {ci : Nat} {fs : List Value} {C ref : String} {T : u_T} {N index : Nat} (hf : f a = .inr (ci, fs)) (hc : vwCl[ci]? = some (C, T, N)) (hin : ∀ w ∈ u_ws C T N, w ∈ WALL) (ty0 : Nat → FieldType) (hty : ∀ k, k < N → parseFieldDescriptor (T k).2.2.1 = some (ty0 k)) (hnm : ∀ a, a < N → ∀ b, b < N → a ≠ b → (T a).2.1 ≠ (T b).2.1) (k : Nat) (hk : k < N) (hlink : Cond.fieldLink own index ref (T k).2.1 (T k).2.2.1 ∈ WALL) (hsame : ∀ x, s.fieldFound? (T k).1 (T k).2.1 (T k).2.2.1 = some x → s.fieldFound? ref (T k).2.1 (T k).2.2.1 = some x) (hfin : (T k).2.2.2 = true) (hin2 : nm = "<init>") (hdecl : (T k).1 = own) {v : Value} (hn : narrow (ty0 k) v = v) (hfit : fits (ty0 k) v = true) (hl : k < fs.length)
    (hdg : decode cc pc = .ok (.putfield index, 3)) (kk : ∀ (H1 : Heap) (locs1 : List Loc), WP ε (X ++ va_pl L (va_up f a (.inr (ci, fs.set k v)))) H1 → WD ε (X ++ va_pl L (va_up f a (.inr (ci, fs.set k v)))) → WS ε H0 H1 locs1 → W p l e R s m args below meth c H1 locs1 cells slots Q (F0 m (pc + 3) ls rest)) : W p l e R s m args below meth c H locs cells slots Q (F0 m pc ls (v :: .ref a :: rest)) := by
  obtain ⟨hx, hb, -, ho, hts, -, -, -, hnam⟩ := hC
  obtain ⟨q, hq⟩ := va_pl_get (X := X) (f := f) ha
  refine va_putF (own := own) (ref := ref) (C := C) (T := T) (N := N) (ci := ci) hx hb hts hin ty0 hty hnm ho hK hP hD hS q (by rw [hq, hf]) hc k hk (hts _ hlink) hsame hfin (hnam.trans hin2) hdecl (hty k hk) hn hfit hl hdg (fun H1 locs1 h1 h2 h3 => ?_)
  rw [va_pl_set hD ha hq] at h1 h2
  exact kk H1 locs1 h1 h2 h3
theorem p_iast (hC : CTX p s m args meth c cc mL ret own nm tb) (hK : WK ε s) (hP : WP ε (X ++ va_pl L f) H) (hD : WD ε (X ++ va_pl L f)) (hS : WS ε H0 H locs) (ha : a ∈ L) {n : Nat} {G : Nat → Int} (hf : f a = eI ε n G) {z v : Int} (hz : 0 ≤ z ∧ z < n ∧ n ≤ 2147483648) (hdg : decode cc pc = .ok (.iastore, 1))
    (kk : ∀ (H1 : Heap) (locs1 : List Loc), WP ε (X ++ va_pl L (va_up f a (eI ε n (va_up G z.toNat v)))) H1 → WD ε (X ++ va_pl L (va_up f a (eI ε n (va_up G z.toNat v)))) → WS ε H0 H1 locs1 → W p l e R s m args below meth c H1 locs1 cells slots Q (F0 m (pc + 1) ls rest)) : W p l e R s m args below meth c H locs cells slots Q (F0 m pc ls (.int (iv v) :: .int (iv z) :: .ref a :: rest)) := by
  obtain ⟨q, hq⟩ := va_pl_get (X := X) (f := f) ha
  refine va_iast hC.1 hC.2.1 hK hP hD hS q 0 (by rw [hq, hf]) rfl (iv_in hz.1 hz.2.1 hz.2.2) hdg (fun H1 locs1 h1 h2 h3 => ?_)
  rw [upd_iv ⟨by omega, by omega⟩, va_pl_set hD ha hq] at h1 h2
  exact kk H1 locs1 h1 h2 h3
theorem p_aast (hC : CTX p s m args meth c cc mL ret own nm tb) (hE : ENV ε s H0) (hP : WP ε (X ++ va_pl L f) H) (hD : WD ε (X ++ va_pl L f)) (hS : WS ε H0 H locs) (ha : a ∈ L) {n : Nat} {g : Nat → Option Nat} (hf : f a = eO ε n g) {v ci : Nat} {fs : List Value} {r : vw_C} (hv : In (X ++ va_pl L f) v (.inr (ci, fs))) (hc : vwCl[ci]? = some r) (hcast : Cond.castable r.1 nObj ∈ castW) {z : Int} (hz : 0 ≤ z ∧ z < n ∧ n ≤ 2147483648) (hdg : decode cc pc = .ok (.aastore, 1))
    (kk : ∀ (H1 : Heap) (locs1 : List Loc), WP ε (X ++ va_pl L (va_up f a (eO ε n (va_up g z.toNat (some v))))) H1 → WD ε (X ++ va_pl L (va_up f a (eO ε n (va_up g z.toNat (some v))))) → WS ε H0 H1 locs1 → W p l e R s m args below meth c H1 locs1 cells slots Q (F0 m (pc + 1) ls rest)) : W p l e R s m args below meth c H locs cells slots Q (F0 m pc ls (.ref v :: .int (iv z) :: .ref a :: rest)) := by
  obtain ⟨q, hq⟩ := va_pl_get (X := X) (f := f) ha
  obtain ⟨kv, hkv⟩ := hv
  have hca : va_Nw (.castable r.1 "java/lang/Object") s := by
    obtain ⟨C9, T9, h9, h8⟩ := hE.2.2.1 _ hcast
    exact h8
  refine va_astqO hC.1 hC.2.1 hE.K hP hD hS q 1 kv ci (by rw [hq, hf]) rfl hca hkv hc (iv_in hz.1 hz.2.1 hz.2.2) hdg (fun H1 locs1 h1 h2 h3 => ?_)
  rw [iv_clamp ⟨by omega, by omega⟩, va_pl_set hD ha hq] at h1 h2
  exact kk H1 locs1 h1 h2 h3
theorem p_push {q : Nat} {e0 : va_E} (hD : WD ε ((X ++ va_pl L f) ++ [(q, e0)])) : q ∉ L ∧ (X ++ va_pl L f) ++ [(q, e0)] = X ++ va_pl (L ++ [q]) (va_up f q e0) := by
  have h := va_pl_fresh2 hD
  exact ⟨h, by rw [List.append_assoc, va_pl_push h]⟩
theorem p_new (hC : CTX p s m args meth c cc mL ret own nm tb) (hE : ENV ε s H0) (hP : WP ε (X ++ va_pl L f) H) (hD : WD ε (X ++ va_pl L f)) (hS : WS ε H0 H locs) {ci : Nat} {fs : List Value} {C : String} {T : u_T} {N index : Nat} (hc : vwCl[ci]? = some (C, T, N)) (hin : ∀ w ∈ u_ws C T N, w ∈ WALL) (ty : Nat → FieldType) (hty : ∀ k, k < N → parseFieldDescriptor (T k).2.2.1 = some (ty k)) (hcl : Cond.classLink own index C ∈ WALL) (hinst : Cond.instantiable C N ∈ WALL) (hini : Cond.initialized C ∈ WALL) (hfs : ∀ j, j < N → defaultValue (ty j) = vp_V fs j) (hcells : cells + 1 ≤ R.cells) (hslots : slots + N ≤ R.slots) (hdg : decode cc pc = .ok (.new index, 3))
    (kk : ∀ (q : Nat) (H1 : Heap), q ∉ L → WP ε (X ++ va_pl (L ++ [q]) (va_up f q (.inr (ci, fs)))) H1 → WD ε (X ++ va_pl (L ++ [q]) (va_up f q (.inr (ci, fs)))) → WS ε H0 H1 locs → W p l e R s m args below meth c H1 locs (cells + 1) (slots + N) Q (F0 m (pc + 3) ls (.ref q :: rest))) : W p l e R s m args below meth c H locs cells slots Q (F0 m pc ls rest) := by
  obtain ⟨hx, hb, -, ho, hts, -⟩ := hC
  refine va_new (own := own) (C := C) (T := T) (N := N) (ci := ci) hx hb hts hin ty hty ho (hts _ hcl) (hts _ hinst) (hts _ hini) hE.K hP hD hS hE.A hc hfs hcells hslots hdg (fun q H1 h1 h2 h3 => ?_)
  obtain ⟨h4, h5⟩ := p_push h2
  rw [h5] at h1 h2
  exact kk q H1 h4 h1 h2 h3
theorem va_RA_fn {U : State} {c1 c2 : ClassId} {ty : FieldType} (h1 : va_RA U c1 ty) (h2 : va_RA U c2 ty) : c1 = c2 := by
  unfold va_RA at h1 h2
  cases ty with
  | object C =>
    obtain ⟨-, -, -, -, -, a⟩ := h1
    obtain ⟨-, -, -, -, -, b⟩ := h2
    exact Option.some.inj (a.symm.trans b)
  | _ => exact Option.some.inj (h1.symm.trans h2)
theorem tys_new {c1 : ClassId} {ty : FieldType} {t0 : Nat} {c0 : ClassId} (h : va_K ε.2.1 vwCl (tys ε ++ [(c1, ty)]) s) (h0 : (tys ε)[t0]? = some (c0, ty)) : c1 = c0 :=
  va_RA_fn (h.2 2 (c1, ty) rfl).2 (h.2 t0 (c0, ty) (by rw [List.getElem?_append_left (List.getElem?_eq_some_iff.mp h0).1]; exact h0)).2
theorem p_newI (hC : CTX p s m args meth c cc mL ret own nm tb) (hE : ENV ε s H0) (hP : WP ε (X ++ va_pl L f) H) (hD : WD ε (X ++ va_pl L f)) (hS : WS ε H0 H locs) {z : Int} {N : Nat} (hN : z = (N : Int)) (hN2 : N < 100000) (hcells : cells + 1 ≤ R.cells) (hslots : slots + N ≤ R.slots) (hw : Cond.arrayClass .int ∈ WALL) (hdg : decode cc pc = .ok (.newarray .int, 2))
    (kk : ∀ (q : Nat) (H1 : Heap), q ∉ L → WP ε (X ++ va_pl (L ++ [q]) (va_up f q (eI ε N (fun _ => 0)))) H1 → WD ε (X ++ va_pl (L ++ [q]) (va_up f q (eI ε N (fun _ => 0)))) → WS ε H0 H1 locs → W p l e R s m args below meth c H1 locs (cells + 1) (slots + N) Q (F0 m (pc + 2) ls (.ref q :: rest))) : W p l e R s m args below meth c H locs cells slots Q (F0 m pc ls (.int (iv z) :: rest)) := by
  subst hN
  have hr : rg (N : Int) := ⟨by omega, by omega⟩
  refine va_newa (atype := .int) (ty := .int) (a0 := (N, .inl (fun _ => iv 0))) (N' := N) hC.1 hC.2.1 (hC.2.2.2.2.1 _ hw) rfl hE.K hP hD hS hE.A (fun cA => rfl) (fun q => by rw [← iv_zero, iv_lt hr (by decide)] at q; omega) (by rw [iv_clamp hr]; rfl) (by show N * 4 ≤ _; omega) hcells hslots hdg (fun q cA H1 h0 h1 h2 h3 => ?_)
  have ec := tys_new (t0 := 0) h0 rfl
  subst ec
  obtain ⟨h4, h5⟩ := p_push h2
  rw [h5] at h1 h2
  exact kk q H1 h4 h1 h2 h3
theorem p_newO (hC : CTX p s m args meth c cc mL ret own nm tb) (hE : ENV ε s H0) (hP : WP ε (X ++ va_pl L f) H) (hD : WD ε (X ++ va_pl L f)) (hS : WS ε H0 H locs) {z : Int} {N index : Nat} (hN : z = (N : Int)) (hN2 : N < 100000) (hcells : cells + 1 ≤ R.cells) (hslots : slots + N ≤ R.slots) (hcl : Cond.classLink own index "java/lang/Object" ∈ WALL) (hdg : decode cc pc = .ok (.anewarray index, 3))
    (kk : ∀ (q : Nat) (H1 : Heap), q ∉ L → WP ε (X ++ va_pl (L ++ [q]) (va_up f q (eO ε N (fun _ => none)))) H1 → WD ε (X ++ va_pl (L ++ [q]) (va_up f q (eO ε N (fun _ => none)))) → WS ε H0 H1 locs → W p l e R s m args below meth c H1 locs (cells + 1) (slots + N) Q (F0 m (pc + 3) ls (.ref q :: rest))) : W p l e R s m args below meth c H locs cells slots Q (F0 m pc ls (.int (iv z) :: rest)) := by
  subst hN
  have hr : rg (N : Int) := ⟨by omega, by omega⟩
  refine va_newq (C := "java/lang/Object") (N' := N) hC.1 hC.2.1 hC.2.2.2.1 (hC.2.2.2.2.1 _ hcl) hE.2.2.2.2.2.2.2.2.2.2.1 hE.K hP hD hS hE.A (fun q => by rw [← iv_zero, iv_lt hr (by decide)] at q; omega) (by rw [iv_clamp hr]; rfl) (by omega) hcells hslots hdg (fun q cA H1 h0 h1 h2 h3 => ?_)
  have ec := tys_new (t0 := 1) h0 rfl
  subst ec
  obtain ⟨h4, h5⟩ := p_push h2
  rw [h5] at h1 h2
  exact kk q H1 h4 h1 h2 h3
end RW2
