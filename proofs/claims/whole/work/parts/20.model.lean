/-! the reference: one object, fourteen arrays; n its numbers, G its rows -/
def fM (ad : Nat → Nat) (n : Nat → Int) : List Value := [.ref (ad 0), .int (iv (n 0)), .int (iv (n 1)), .ref (ad 1), .ref (ad 2), .ref (ad 3), .int (iv (n 2)), .ref (ad 4), .ref (ad 5), .ref (ad 6), .ref (ad 7), .ref (ad 8), .ref (ad 9), .ref (ad 10), .ref (ad 11), .int (iv (n 3)), .int (iv (n 4)), .ref (ad 12), .ref (ad 13), .int (iv (n 5))]
def wM (ε : EV) (m : Nat) (ad : Nat → Nat) (n : Nat → Int) (G : Nat → Nat → Int) : va_W := [(m, .inr (6, fM ad n)), (ad 0, (eI ε 6 (G 0))), (ad 1, (eI ε 120 (G 1))), (ad 2, (eI ε 20 (G 2))), (ad 3, (eI ε 20 (G 3))), (ad 4, (eI ε 12 (G 4))), (ad 5, (eI ε 12 (G 5))), (ad 6, (eI ε 12 (G 6))), (ad 7, (eI ε 12 (G 7))), (ad 8, (eI ε 12 (G 8))), (ad 9, (eI ε 12 (G 9))), (ad 10, (eZ ε 12 (G 10))), (ad 11, (eI ε 4200 (G 11))), (ad 12, (eI ε 10 (G 12))), (ad 13, (eI ε 120 (G 13)))]
section MW
variable {ε : EV} {m : Nat} {ad : Nat → Nat} {n : Nat → Int} {G : Nat → Nat → Int} {R : va_W}
theorem wM_o : In (wM ε m ad n G ++ R) m (.inr (6, fM ad n)) := ⟨0, rfl⟩
theorem wM_0 : In (wM ε m ad n G ++ R) (ad 0) (eI ε 6 (G 0)) := ⟨1, rfl⟩
theorem wM_1 : In (wM ε m ad n G ++ R) (ad 1) (eI ε 120 (G 1)) := ⟨2, rfl⟩
theorem wM_2 : In (wM ε m ad n G ++ R) (ad 2) (eI ε 20 (G 2)) := ⟨3, rfl⟩
theorem wM_3 : In (wM ε m ad n G ++ R) (ad 3) (eI ε 20 (G 3)) := ⟨4, rfl⟩
theorem wM_4 : In (wM ε m ad n G ++ R) (ad 4) (eI ε 12 (G 4)) := ⟨5, rfl⟩
theorem wM_5 : In (wM ε m ad n G ++ R) (ad 5) (eI ε 12 (G 5)) := ⟨6, rfl⟩
theorem wM_6 : In (wM ε m ad n G ++ R) (ad 6) (eI ε 12 (G 6)) := ⟨7, rfl⟩
theorem wM_7 : In (wM ε m ad n G ++ R) (ad 7) (eI ε 12 (G 7)) := ⟨8, rfl⟩
theorem wM_8 : In (wM ε m ad n G ++ R) (ad 8) (eI ε 12 (G 8)) := ⟨9, rfl⟩
theorem wM_9 : In (wM ε m ad n G ++ R) (ad 9) (eI ε 12 (G 9)) := ⟨10, rfl⟩
theorem wM_10 : In (wM ε m ad n G ++ R) (ad 10) (eZ ε 12 (G 10)) := ⟨11, rfl⟩
theorem wM_11 : In (wM ε m ad n G ++ R) (ad 11) (eI ε 4200 (G 11)) := ⟨12, rfl⟩
theorem wM_12 : In (wM ε m ad n G ++ R) (ad 12) (eI ε 10 (G 12)) := ⟨13, rfl⟩
theorem wM_13 : In (wM ε m ad n G ++ R) (ad 13) (eI ε 120 (G 13)) := ⟨14, rfl⟩
end MW
section MR
variable {p : Program} {l : Launch} {e : Env} {R : Room} {s : State} {m : MethodId} {args : Array Value} {below : List Frame} {meth : Method} {c : Code} {H H0 : Heap} {locs : List Loc} {cells slots : Nat} {Q : State → Prop}
variable {cc : ByteArray} {pc : Nat} {ls : Array Slot} {rest : List Value} {ε : EV} {X : va_W} {a : Nat} {ad : Nat → Nat} {n : Nat → Int} {G : Nat → Nat → Int} {mL : Nat} {ret : Option FieldType} {own nm : String} {tb : List ExceptionTableEntry}
theorem m_put0 (hC : CTX p s m args meth c cc mL ret own nm tb) (hK : WK ε s) (hP : WP ε (wM ε a ad n G ++ X) H) (hD : WD ε (wM ε a ad n G ++ X)) (hS : WS ε H0 H locs) {index : Nat} (hlink : Cond.fieldLink own index RX5 (TX5 1).2.1 (TX5 1).2.2.1 ∈ WALL) {v : Int} (hdg : decode cc pc = .ok (.putfield index, 3))
    (kk : ∀ (H1 : Heap) (locs1 : List Loc), WP ε (wM ε a ad (va_up n 0 v) G ++ X) H1 → WD ε (wM ε a ad (va_up n 0 v) G ++ X) → WS ε H0 H1 locs1 → W p l e R s m args below meth c H1 locs1 cells slots Q (F0 m (pc + 3) ls rest)) : W p l e R s m args below meth c H locs cells slots Q (F0 m pc ls (.int (iv v) :: .ref a :: rest)) := by
  obtain ⟨hx, hb, -, ho, hts, -⟩ := hC
  refine va_put (own := own) (ref := RX5) (C := RX5) (T := TX5) (N := 20) (ci := 6) hx hb hts (fun w h => wt_1 w h) tyX5 tyX5_ok nmX5 ho hK hP hD hS 0 (fs := fM ad n) rfl rfl 1 (by decide) (hts _ hlink) (fun _ h => h) rfl (ty := .int) rfl rfl rfl (by show 1 < 20; decide) hdg (fun H1 locs1 h1 h2 h3 => ?_)
  exact kk H1 locs1 h1 h2 h3
theorem m_put1 (hC : CTX p s m args meth c cc mL ret own nm tb) (hK : WK ε s) (hP : WP ε (wM ε a ad n G ++ X) H) (hD : WD ε (wM ε a ad n G ++ X)) (hS : WS ε H0 H locs) {index : Nat} (hlink : Cond.fieldLink own index RX5 (TX5 2).2.1 (TX5 2).2.2.1 ∈ WALL) {v : Int} (hdg : decode cc pc = .ok (.putfield index, 3))
    (kk : ∀ (H1 : Heap) (locs1 : List Loc), WP ε (wM ε a ad (va_up n 1 v) G ++ X) H1 → WD ε (wM ε a ad (va_up n 1 v) G ++ X) → WS ε H0 H1 locs1 → W p l e R s m args below meth c H1 locs1 cells slots Q (F0 m (pc + 3) ls rest)) : W p l e R s m args below meth c H locs cells slots Q (F0 m pc ls (.int (iv v) :: .ref a :: rest)) := by
  obtain ⟨hx, hb, -, ho, hts, -⟩ := hC
  refine va_put (own := own) (ref := RX5) (C := RX5) (T := TX5) (N := 20) (ci := 6) hx hb hts (fun w h => wt_1 w h) tyX5 tyX5_ok nmX5 ho hK hP hD hS 0 (fs := fM ad n) rfl rfl 2 (by decide) (hts _ hlink) (fun _ h => h) rfl (ty := .int) rfl rfl rfl (by show 2 < 20; decide) hdg (fun H1 locs1 h1 h2 h3 => ?_)
  exact kk H1 locs1 h1 h2 h3
theorem m_put2 (hC : CTX p s m args meth c cc mL ret own nm tb) (hK : WK ε s) (hP : WP ε (wM ε a ad n G ++ X) H) (hD : WD ε (wM ε a ad n G ++ X)) (hS : WS ε H0 H locs) {index : Nat} (hlink : Cond.fieldLink own index RX5 (TX5 6).2.1 (TX5 6).2.2.1 ∈ WALL) {v : Int} (hdg : decode cc pc = .ok (.putfield index, 3))
    (kk : ∀ (H1 : Heap) (locs1 : List Loc), WP ε (wM ε a ad (va_up n 2 v) G ++ X) H1 → WD ε (wM ε a ad (va_up n 2 v) G ++ X) → WS ε H0 H1 locs1 → W p l e R s m args below meth c H1 locs1 cells slots Q (F0 m (pc + 3) ls rest)) : W p l e R s m args below meth c H locs cells slots Q (F0 m pc ls (.int (iv v) :: .ref a :: rest)) := by
  obtain ⟨hx, hb, -, ho, hts, -⟩ := hC
  refine va_put (own := own) (ref := RX5) (C := RX5) (T := TX5) (N := 20) (ci := 6) hx hb hts (fun w h => wt_1 w h) tyX5 tyX5_ok nmX5 ho hK hP hD hS 0 (fs := fM ad n) rfl rfl 6 (by decide) (hts _ hlink) (fun _ h => h) rfl (ty := .int) rfl rfl rfl (by show 6 < 20; decide) hdg (fun H1 locs1 h1 h2 h3 => ?_)
  exact kk H1 locs1 h1 h2 h3
theorem m_put3 (hC : CTX p s m args meth c cc mL ret own nm tb) (hK : WK ε s) (hP : WP ε (wM ε a ad n G ++ X) H) (hD : WD ε (wM ε a ad n G ++ X)) (hS : WS ε H0 H locs) {index : Nat} (hlink : Cond.fieldLink own index RX5 (TX5 15).2.1 (TX5 15).2.2.1 ∈ WALL) {v : Int} (hdg : decode cc pc = .ok (.putfield index, 3))
    (kk : ∀ (H1 : Heap) (locs1 : List Loc), WP ε (wM ε a ad (va_up n 3 v) G ++ X) H1 → WD ε (wM ε a ad (va_up n 3 v) G ++ X) → WS ε H0 H1 locs1 → W p l e R s m args below meth c H1 locs1 cells slots Q (F0 m (pc + 3) ls rest)) : W p l e R s m args below meth c H locs cells slots Q (F0 m pc ls (.int (iv v) :: .ref a :: rest)) := by
  obtain ⟨hx, hb, -, ho, hts, -⟩ := hC
  refine va_put (own := own) (ref := RX5) (C := RX5) (T := TX5) (N := 20) (ci := 6) hx hb hts (fun w h => wt_1 w h) tyX5 tyX5_ok nmX5 ho hK hP hD hS 0 (fs := fM ad n) rfl rfl 15 (by decide) (hts _ hlink) (fun _ h => h) rfl (ty := .int) rfl rfl rfl (by show 15 < 20; decide) hdg (fun H1 locs1 h1 h2 h3 => ?_)
  exact kk H1 locs1 h1 h2 h3
theorem m_put4 (hC : CTX p s m args meth c cc mL ret own nm tb) (hK : WK ε s) (hP : WP ε (wM ε a ad n G ++ X) H) (hD : WD ε (wM ε a ad n G ++ X)) (hS : WS ε H0 H locs) {index : Nat} (hlink : Cond.fieldLink own index RX5 (TX5 16).2.1 (TX5 16).2.2.1 ∈ WALL) {v : Int} (hdg : decode cc pc = .ok (.putfield index, 3))
    (kk : ∀ (H1 : Heap) (locs1 : List Loc), WP ε (wM ε a ad (va_up n 4 v) G ++ X) H1 → WD ε (wM ε a ad (va_up n 4 v) G ++ X) → WS ε H0 H1 locs1 → W p l e R s m args below meth c H1 locs1 cells slots Q (F0 m (pc + 3) ls rest)) : W p l e R s m args below meth c H locs cells slots Q (F0 m pc ls (.int (iv v) :: .ref a :: rest)) := by
  obtain ⟨hx, hb, -, ho, hts, -⟩ := hC
  refine va_put (own := own) (ref := RX5) (C := RX5) (T := TX5) (N := 20) (ci := 6) hx hb hts (fun w h => wt_1 w h) tyX5 tyX5_ok nmX5 ho hK hP hD hS 0 (fs := fM ad n) rfl rfl 16 (by decide) (hts _ hlink) (fun _ h => h) rfl (ty := .int) rfl rfl rfl (by show 16 < 20; decide) hdg (fun H1 locs1 h1 h2 h3 => ?_)
  exact kk H1 locs1 h1 h2 h3
theorem m_put5 (hC : CTX p s m args meth c cc mL ret own nm tb) (hK : WK ε s) (hP : WP ε (wM ε a ad n G ++ X) H) (hD : WD ε (wM ε a ad n G ++ X)) (hS : WS ε H0 H locs) {index : Nat} (hlink : Cond.fieldLink own index RX5 (TX5 19).2.1 (TX5 19).2.2.1 ∈ WALL) {v : Int} (hdg : decode cc pc = .ok (.putfield index, 3))
    (kk : ∀ (H1 : Heap) (locs1 : List Loc), WP ε (wM ε a ad (va_up n 5 v) G ++ X) H1 → WD ε (wM ε a ad (va_up n 5 v) G ++ X) → WS ε H0 H1 locs1 → W p l e R s m args below meth c H1 locs1 cells slots Q (F0 m (pc + 3) ls rest)) : W p l e R s m args below meth c H locs cells slots Q (F0 m pc ls (.int (iv v) :: .ref a :: rest)) := by
  obtain ⟨hx, hb, -, ho, hts, -⟩ := hC
  refine va_put (own := own) (ref := RX5) (C := RX5) (T := TX5) (N := 20) (ci := 6) hx hb hts (fun w h => wt_1 w h) tyX5 tyX5_ok nmX5 ho hK hP hD hS 0 (fs := fM ad n) rfl rfl 19 (by decide) (hts _ hlink) (fun _ h => h) rfl (ty := .int) rfl rfl rfl (by show 19 < 20; decide) hdg (fun H1 locs1 h1 h2 h3 => ?_)
  exact kk H1 locs1 h1 h2 h3
theorem m_ast0 (hC : CTX p s m args meth c cc mL ret own nm tb) (hK : WK ε s) (hP : WP ε (wM ε a ad n G ++ X) H) (hD : WD ε (wM ε a ad n G ++ X)) (hS : WS ε H0 H locs) {z v : Int} (hz : 0 ≤ z ∧ z < 6) (hdg : decode cc pc = .ok (.iastore, 1))
    (kk : ∀ (H1 : Heap) (locs1 : List Loc), WP ε (wM ε a ad n (va_up G 0 (va_up (G 0) z.toNat v)) ++ X) H1 → WD ε (wM ε a ad n (va_up G 0 (va_up (G 0) z.toNat v)) ++ X) → WS ε H0 H1 locs1 → W p l e R s m args below meth c H1 locs1 cells slots Q (F0 m (pc + 1) ls rest)) : W p l e R s m args below meth c H locs cells slots Q (F0 m pc ls (.int (iv v) :: .int (iv z) :: .ref (ad 0) :: rest)) := by
  refine va_iast hC.1 hC.2.1 hK hP hD hS 1 0 (f := fun j => iv (G 0 j)) rfl rfl (iv_in hz.1 hz.2 (by decide)) hdg (fun H1 locs1 h1 h2 h3 => ?_)
  rw [upd_iv ⟨by omega, by omega⟩] at h1 h2
  exact kk H1 locs1 h1 h2 h3
theorem m_ast1 (hC : CTX p s m args meth c cc mL ret own nm tb) (hK : WK ε s) (hP : WP ε (wM ε a ad n G ++ X) H) (hD : WD ε (wM ε a ad n G ++ X)) (hS : WS ε H0 H locs) {z v : Int} (hz : 0 ≤ z ∧ z < 120) (hdg : decode cc pc = .ok (.iastore, 1))
    (kk : ∀ (H1 : Heap) (locs1 : List Loc), WP ε (wM ε a ad n (va_up G 1 (va_up (G 1) z.toNat v)) ++ X) H1 → WD ε (wM ε a ad n (va_up G 1 (va_up (G 1) z.toNat v)) ++ X) → WS ε H0 H1 locs1 → W p l e R s m args below meth c H1 locs1 cells slots Q (F0 m (pc + 1) ls rest)) : W p l e R s m args below meth c H locs cells slots Q (F0 m pc ls (.int (iv v) :: .int (iv z) :: .ref (ad 1) :: rest)) := by
  refine va_iast hC.1 hC.2.1 hK hP hD hS 2 0 (f := fun j => iv (G 1 j)) rfl rfl (iv_in hz.1 hz.2 (by decide)) hdg (fun H1 locs1 h1 h2 h3 => ?_)
  rw [upd_iv ⟨by omega, by omega⟩] at h1 h2
  exact kk H1 locs1 h1 h2 h3
theorem m_ast2 (hC : CTX p s m args meth c cc mL ret own nm tb) (hK : WK ε s) (hP : WP ε (wM ε a ad n G ++ X) H) (hD : WD ε (wM ε a ad n G ++ X)) (hS : WS ε H0 H locs) {z v : Int} (hz : 0 ≤ z ∧ z < 20) (hdg : decode cc pc = .ok (.iastore, 1))
    (kk : ∀ (H1 : Heap) (locs1 : List Loc), WP ε (wM ε a ad n (va_up G 2 (va_up (G 2) z.toNat v)) ++ X) H1 → WD ε (wM ε a ad n (va_up G 2 (va_up (G 2) z.toNat v)) ++ X) → WS ε H0 H1 locs1 → W p l e R s m args below meth c H1 locs1 cells slots Q (F0 m (pc + 1) ls rest)) : W p l e R s m args below meth c H locs cells slots Q (F0 m pc ls (.int (iv v) :: .int (iv z) :: .ref (ad 2) :: rest)) := by
  refine va_iast hC.1 hC.2.1 hK hP hD hS 3 0 (f := fun j => iv (G 2 j)) rfl rfl (iv_in hz.1 hz.2 (by decide)) hdg (fun H1 locs1 h1 h2 h3 => ?_)
  rw [upd_iv ⟨by omega, by omega⟩] at h1 h2
  exact kk H1 locs1 h1 h2 h3
theorem m_ast3 (hC : CTX p s m args meth c cc mL ret own nm tb) (hK : WK ε s) (hP : WP ε (wM ε a ad n G ++ X) H) (hD : WD ε (wM ε a ad n G ++ X)) (hS : WS ε H0 H locs) {z v : Int} (hz : 0 ≤ z ∧ z < 20) (hdg : decode cc pc = .ok (.iastore, 1))
    (kk : ∀ (H1 : Heap) (locs1 : List Loc), WP ε (wM ε a ad n (va_up G 3 (va_up (G 3) z.toNat v)) ++ X) H1 → WD ε (wM ε a ad n (va_up G 3 (va_up (G 3) z.toNat v)) ++ X) → WS ε H0 H1 locs1 → W p l e R s m args below meth c H1 locs1 cells slots Q (F0 m (pc + 1) ls rest)) : W p l e R s m args below meth c H locs cells slots Q (F0 m pc ls (.int (iv v) :: .int (iv z) :: .ref (ad 3) :: rest)) := by
  refine va_iast hC.1 hC.2.1 hK hP hD hS 4 0 (f := fun j => iv (G 3 j)) rfl rfl (iv_in hz.1 hz.2 (by decide)) hdg (fun H1 locs1 h1 h2 h3 => ?_)
  rw [upd_iv ⟨by omega, by omega⟩] at h1 h2
  exact kk H1 locs1 h1 h2 h3
theorem m_ast4 (hC : CTX p s m args meth c cc mL ret own nm tb) (hK : WK ε s) (hP : WP ε (wM ε a ad n G ++ X) H) (hD : WD ε (wM ε a ad n G ++ X)) (hS : WS ε H0 H locs) {z v : Int} (hz : 0 ≤ z ∧ z < 12) (hdg : decode cc pc = .ok (.iastore, 1))
    (kk : ∀ (H1 : Heap) (locs1 : List Loc), WP ε (wM ε a ad n (va_up G 4 (va_up (G 4) z.toNat v)) ++ X) H1 → WD ε (wM ε a ad n (va_up G 4 (va_up (G 4) z.toNat v)) ++ X) → WS ε H0 H1 locs1 → W p l e R s m args below meth c H1 locs1 cells slots Q (F0 m (pc + 1) ls rest)) : W p l e R s m args below meth c H locs cells slots Q (F0 m pc ls (.int (iv v) :: .int (iv z) :: .ref (ad 4) :: rest)) := by
  refine va_iast hC.1 hC.2.1 hK hP hD hS 5 0 (f := fun j => iv (G 4 j)) rfl rfl (iv_in hz.1 hz.2 (by decide)) hdg (fun H1 locs1 h1 h2 h3 => ?_)
  rw [upd_iv ⟨by omega, by omega⟩] at h1 h2
  exact kk H1 locs1 h1 h2 h3
theorem m_ast5 (hC : CTX p s m args meth c cc mL ret own nm tb) (hK : WK ε s) (hP : WP ε (wM ε a ad n G ++ X) H) (hD : WD ε (wM ε a ad n G ++ X)) (hS : WS ε H0 H locs) {z v : Int} (hz : 0 ≤ z ∧ z < 12) (hdg : decode cc pc = .ok (.iastore, 1))
    (kk : ∀ (H1 : Heap) (locs1 : List Loc), WP ε (wM ε a ad n (va_up G 5 (va_up (G 5) z.toNat v)) ++ X) H1 → WD ε (wM ε a ad n (va_up G 5 (va_up (G 5) z.toNat v)) ++ X) → WS ε H0 H1 locs1 → W p l e R s m args below meth c H1 locs1 cells slots Q (F0 m (pc + 1) ls rest)) : W p l e R s m args below meth c H locs cells slots Q (F0 m pc ls (.int (iv v) :: .int (iv z) :: .ref (ad 5) :: rest)) := by
  refine va_iast hC.1 hC.2.1 hK hP hD hS 6 0 (f := fun j => iv (G 5 j)) rfl rfl (iv_in hz.1 hz.2 (by decide)) hdg (fun H1 locs1 h1 h2 h3 => ?_)
  rw [upd_iv ⟨by omega, by omega⟩] at h1 h2
  exact kk H1 locs1 h1 h2 h3
theorem m_ast6 (hC : CTX p s m args meth c cc mL ret own nm tb) (hK : WK ε s) (hP : WP ε (wM ε a ad n G ++ X) H) (hD : WD ε (wM ε a ad n G ++ X)) (hS : WS ε H0 H locs) {z v : Int} (hz : 0 ≤ z ∧ z < 12) (hdg : decode cc pc = .ok (.iastore, 1))
    (kk : ∀ (H1 : Heap) (locs1 : List Loc), WP ε (wM ε a ad n (va_up G 6 (va_up (G 6) z.toNat v)) ++ X) H1 → WD ε (wM ε a ad n (va_up G 6 (va_up (G 6) z.toNat v)) ++ X) → WS ε H0 H1 locs1 → W p l e R s m args below meth c H1 locs1 cells slots Q (F0 m (pc + 1) ls rest)) : W p l e R s m args below meth c H locs cells slots Q (F0 m pc ls (.int (iv v) :: .int (iv z) :: .ref (ad 6) :: rest)) := by
  refine va_iast hC.1 hC.2.1 hK hP hD hS 7 0 (f := fun j => iv (G 6 j)) rfl rfl (iv_in hz.1 hz.2 (by decide)) hdg (fun H1 locs1 h1 h2 h3 => ?_)
  rw [upd_iv ⟨by omega, by omega⟩] at h1 h2
  exact kk H1 locs1 h1 h2 h3
theorem m_ast7 (hC : CTX p s m args meth c cc mL ret own nm tb) (hK : WK ε s) (hP : WP ε (wM ε a ad n G ++ X) H) (hD : WD ε (wM ε a ad n G ++ X)) (hS : WS ε H0 H locs) {z v : Int} (hz : 0 ≤ z ∧ z < 12) (hdg : decode cc pc = .ok (.iastore, 1))
    (kk : ∀ (H1 : Heap) (locs1 : List Loc), WP ε (wM ε a ad n (va_up G 7 (va_up (G 7) z.toNat v)) ++ X) H1 → WD ε (wM ε a ad n (va_up G 7 (va_up (G 7) z.toNat v)) ++ X) → WS ε H0 H1 locs1 → W p l e R s m args below meth c H1 locs1 cells slots Q (F0 m (pc + 1) ls rest)) : W p l e R s m args below meth c H locs cells slots Q (F0 m pc ls (.int (iv v) :: .int (iv z) :: .ref (ad 7) :: rest)) := by
  refine va_iast hC.1 hC.2.1 hK hP hD hS 8 0 (f := fun j => iv (G 7 j)) rfl rfl (iv_in hz.1 hz.2 (by decide)) hdg (fun H1 locs1 h1 h2 h3 => ?_)
  rw [upd_iv ⟨by omega, by omega⟩] at h1 h2
  exact kk H1 locs1 h1 h2 h3
theorem m_ast8 (hC : CTX p s m args meth c cc mL ret own nm tb) (hK : WK ε s) (hP : WP ε (wM ε a ad n G ++ X) H) (hD : WD ε (wM ε a ad n G ++ X)) (hS : WS ε H0 H locs) {z v : Int} (hz : 0 ≤ z ∧ z < 12) (hdg : decode cc pc = .ok (.iastore, 1))
    (kk : ∀ (H1 : Heap) (locs1 : List Loc), WP ε (wM ε a ad n (va_up G 8 (va_up (G 8) z.toNat v)) ++ X) H1 → WD ε (wM ε a ad n (va_up G 8 (va_up (G 8) z.toNat v)) ++ X) → WS ε H0 H1 locs1 → W p l e R s m args below meth c H1 locs1 cells slots Q (F0 m (pc + 1) ls rest)) : W p l e R s m args below meth c H locs cells slots Q (F0 m pc ls (.int (iv v) :: .int (iv z) :: .ref (ad 8) :: rest)) := by
  refine va_iast hC.1 hC.2.1 hK hP hD hS 9 0 (f := fun j => iv (G 8 j)) rfl rfl (iv_in hz.1 hz.2 (by decide)) hdg (fun H1 locs1 h1 h2 h3 => ?_)
  rw [upd_iv ⟨by omega, by omega⟩] at h1 h2
  exact kk H1 locs1 h1 h2 h3
theorem m_ast9 (hC : CTX p s m args meth c cc mL ret own nm tb) (hK : WK ε s) (hP : WP ε (wM ε a ad n G ++ X) H) (hD : WD ε (wM ε a ad n G ++ X)) (hS : WS ε H0 H locs) {z v : Int} (hz : 0 ≤ z ∧ z < 12) (hdg : decode cc pc = .ok (.iastore, 1))
    (kk : ∀ (H1 : Heap) (locs1 : List Loc), WP ε (wM ε a ad n (va_up G 9 (va_up (G 9) z.toNat v)) ++ X) H1 → WD ε (wM ε a ad n (va_up G 9 (va_up (G 9) z.toNat v)) ++ X) → WS ε H0 H1 locs1 → W p l e R s m args below meth c H1 locs1 cells slots Q (F0 m (pc + 1) ls rest)) : W p l e R s m args below meth c H locs cells slots Q (F0 m pc ls (.int (iv v) :: .int (iv z) :: .ref (ad 9) :: rest)) := by
  refine va_iast hC.1 hC.2.1 hK hP hD hS 10 0 (f := fun j => iv (G 9 j)) rfl rfl (iv_in hz.1 hz.2 (by decide)) hdg (fun H1 locs1 h1 h2 h3 => ?_)
  rw [upd_iv ⟨by omega, by omega⟩] at h1 h2
  exact kk H1 locs1 h1 h2 h3
theorem m_ast10 (hC : CTX p s m args meth c cc mL ret own nm tb) (hK : WK ε s) (hP : WP ε (wM ε a ad n G ++ X) H) (hD : WD ε (wM ε a ad n G ++ X)) (hS : WS ε H0 H locs) {z v : Int} (hz : 0 ≤ z ∧ z < 12) (hv : v = 0 ∨ v = 1) (hdg : decode cc pc = .ok (.bastore, 1))
    (kk : ∀ (H1 : Heap) (locs1 : List Loc), WP ε (wM ε a ad n (va_up G 10 (va_up (G 10) z.toNat v)) ++ X) H1 → WD ε (wM ε a ad n (va_up G 10 (va_up (G 10) z.toNat v)) ++ X) → WS ε H0 H1 locs1 → W p l e R s m args below meth c H1 locs1 cells slots Q (F0 m (pc + 1) ls rest)) : W p l e R s m args below meth c H locs cells slots Q (F0 m pc ls (.int (iv v) :: .int (iv z) :: .ref (ad 10) :: rest)) := by
  refine va_zast hC.1 hC.2.1 hK hP hD hS 11 1 (f := fun j => iv (G 10 j)) rfl rfl (iv_in hz.1 hz.2 (by decide)) hdg (fun H1 locs1 h1 h2 h3 => ?_)
  rw [show vp_nar .boolean (iv v) = iv v by rcases hv with rfl | rfl <;> decide, upd_iv ⟨by omega, by omega⟩] at h1 h2
  exact kk H1 locs1 h1 h2 h3
theorem m_ast11 (hC : CTX p s m args meth c cc mL ret own nm tb) (hK : WK ε s) (hP : WP ε (wM ε a ad n G ++ X) H) (hD : WD ε (wM ε a ad n G ++ X)) (hS : WS ε H0 H locs) {z v : Int} (hz : 0 ≤ z ∧ z < 4200) (hdg : decode cc pc = .ok (.iastore, 1))
    (kk : ∀ (H1 : Heap) (locs1 : List Loc), WP ε (wM ε a ad n (va_up G 11 (va_up (G 11) z.toNat v)) ++ X) H1 → WD ε (wM ε a ad n (va_up G 11 (va_up (G 11) z.toNat v)) ++ X) → WS ε H0 H1 locs1 → W p l e R s m args below meth c H1 locs1 cells slots Q (F0 m (pc + 1) ls rest)) : W p l e R s m args below meth c H locs cells slots Q (F0 m pc ls (.int (iv v) :: .int (iv z) :: .ref (ad 11) :: rest)) := by
  refine va_iast hC.1 hC.2.1 hK hP hD hS 12 0 (f := fun j => iv (G 11 j)) rfl rfl (iv_in hz.1 hz.2 (by decide)) hdg (fun H1 locs1 h1 h2 h3 => ?_)
  rw [upd_iv ⟨by omega, by omega⟩] at h1 h2
  exact kk H1 locs1 h1 h2 h3
theorem m_ast12 (hC : CTX p s m args meth c cc mL ret own nm tb) (hK : WK ε s) (hP : WP ε (wM ε a ad n G ++ X) H) (hD : WD ε (wM ε a ad n G ++ X)) (hS : WS ε H0 H locs) {z v : Int} (hz : 0 ≤ z ∧ z < 10) (hdg : decode cc pc = .ok (.iastore, 1))
    (kk : ∀ (H1 : Heap) (locs1 : List Loc), WP ε (wM ε a ad n (va_up G 12 (va_up (G 12) z.toNat v)) ++ X) H1 → WD ε (wM ε a ad n (va_up G 12 (va_up (G 12) z.toNat v)) ++ X) → WS ε H0 H1 locs1 → W p l e R s m args below meth c H1 locs1 cells slots Q (F0 m (pc + 1) ls rest)) : W p l e R s m args below meth c H locs cells slots Q (F0 m pc ls (.int (iv v) :: .int (iv z) :: .ref (ad 12) :: rest)) := by
  refine va_iast hC.1 hC.2.1 hK hP hD hS 13 0 (f := fun j => iv (G 12 j)) rfl rfl (iv_in hz.1 hz.2 (by decide)) hdg (fun H1 locs1 h1 h2 h3 => ?_)
  rw [upd_iv ⟨by omega, by omega⟩] at h1 h2
  exact kk H1 locs1 h1 h2 h3
theorem m_ast13 (hC : CTX p s m args meth c cc mL ret own nm tb) (hK : WK ε s) (hP : WP ε (wM ε a ad n G ++ X) H) (hD : WD ε (wM ε a ad n G ++ X)) (hS : WS ε H0 H locs) {z v : Int} (hz : 0 ≤ z ∧ z < 120) (hdg : decode cc pc = .ok (.iastore, 1))
    (kk : ∀ (H1 : Heap) (locs1 : List Loc), WP ε (wM ε a ad n (va_up G 13 (va_up (G 13) z.toNat v)) ++ X) H1 → WD ε (wM ε a ad n (va_up G 13 (va_up (G 13) z.toNat v)) ++ X) → WS ε H0 H1 locs1 → W p l e R s m args below meth c H1 locs1 cells slots Q (F0 m (pc + 1) ls rest)) : W p l e R s m args below meth c H locs cells slots Q (F0 m pc ls (.int (iv v) :: .int (iv z) :: .ref (ad 13) :: rest)) := by
  refine va_iast hC.1 hC.2.1 hK hP hD hS 14 0 (f := fun j => iv (G 13 j)) rfl rfl (iv_in hz.1 hz.2 (by decide)) hdg (fun H1 locs1 h1 h2 h3 => ?_)
  rw [upd_iv ⟨by omega, by omega⟩] at h1 h2
  exact kk H1 locs1 h1 h2 h3
end MR
