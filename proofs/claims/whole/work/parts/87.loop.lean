/-- the law's context, but for the call's number -/
def LC0 (p : Program) (l : Launch) (s : State) (m : MethodId) (b N : Nat) (xs : Nat → Int32) (meth : Method) (c : Code) (ε : EV) : Prop :=
  (∃ (nm : String) (tb : List ExceptionTableEntry), CTX p s m #[Value.ref b] meth c code 7 ret RL nm tb) ∧ ENV ε s s.heap ∧ l.stackTraces = false ∧ va_X b N xs s s.heap ∧ b < s.heap.size ∧ ¬ AA ε b ∧ N ≤ 3584 ∧ ε.1 = s.heap.size
theorem LAT.call {p : Program} {l : Launch} {e : Env} {s : State} {m : MethodId} {b N : Nat} {xs : Nat → Int32} {below : List Frame} {meth : Method} {c : Code} {ε : EV} {x m0 : Nat} {ad : Nat → Nat} {o : Nat} {Q : State → Prop} {k : Nat} (h0 : LCX p l s m b N xs meth c ε k) (nx : LAT p l e s m b below meth c ε x m0 ad o Q 1396 k (k + 1)) : LAT p l e s m b below meth c ε x m0 ad o Q 33 k k := by
  intro n G g L f ρ H locs ls hW hP hD hS hl
  obtain ⟨⟨nm9, tb9, hC⟩, hE, hst, hX, hbl, hbA, hN1, hN2⟩ := id h0
  have hx := hC.1
  have hb := hC.2.1
  refine lv_aload_n (pc := 33) hx hb dL_law_33 rfl (lv_at hl 1 rfl) ?_
  refine lv_iload (pc := 34) hx hb dL_law_34 (lv_at hl 0 rfl) ?_
  refine r_sld (pc := 36) (z := 7 * (k : Int)) (v := ZZ xs (7 * (k : Int))) hC hX hbl hbA hS ⟨by omega, by omega, by omega⟩ rfl dL_law_36 ?_
  refine lv_bipush (pc := 37) (v := 31) hx hb dL_law_37 (by decide) ?_
  refine lv_iand (pc := 39) hx hb dL_law_39 ?_
  obtain ⟨z, hz⟩ : ∃ z : Int32, z = iv (ZZ xs (7 * (k : Int))) &&& 31 := ⟨_, rfl⟩
  rw [← hz]
  have hgo : z.toInt < 0 ∨ 18 < z.toInt ∨ z.toInt = 0 ∨ z.toInt = 1 ∨ z.toInt = 2 ∨ z.toInt = 3 ∨ z.toInt = 4 ∨ z.toInt = 5 ∨ z.toInt = 6 ∨ z.toInt = 7 ∨ z.toInt = 8 ∨ z.toInt = 9 ∨ z.toInt = 10 ∨ z.toInt = 11 ∨ z.toInt = 12 ∨ z.toInt = 13 ∨ z.toInt = 14 ∨ z.toInt = 15 ∨ z.toInt = 16 ∨ z.toInt = 17 ∨ z.toInt = 18 := by omega
  rcases hgo with h | h | h | h | h | h | h | h | h | h | h | h | h | h | h | h | h | h | h | h | h
  · refine lv_tableOut (pc := 40) hx hb dL_law_40 (Or.inl h) (tgt := 1396) (by decide) ?_
    obtain ⟨hI, h3, hR⟩ := hW
    refine W.widen (k := 40 + 20 * (k + 1)) (n := 5000 + 3400 * (k + 1)) (by omega) (by omega) ?_
    exact nx n G g L f ρ _ _ _ ⟨hI, (show n 3 ≤ ((k + 1 : Nat) : Int) by omega), hR⟩ hP hD hS hl
  · refine lv_tableOut (pc := 40) hx hb dL_law_40 (Or.inr h) (tgt := 1396) (by decide) ?_
    obtain ⟨hI, h3, hR⟩ := hW
    refine W.widen (k := 40 + 20 * (k + 1)) (n := 5000 + 3400 * (k + 1)) (by omega) (by omega) ?_
    exact nx n G g L f ρ _ _ _ ⟨hI, (show n 3 ≤ ((k + 1 : Nat) : Int) by omega), hR⟩ hP hD hS hl
  · refine lv_tableIn (pc := 40) (off := 92) (tgt := 132) hx hb dL_law_40 (by omega) (by omega) (by rw [h]; rfl) (by decide) ?_
    exact law_c0 h0 nx n G g L f ρ _ _ _ hW hP hD hS hl
  · refine lv_tableIn (pc := 40) (off := 148) (tgt := 188) hx hb dL_law_40 (by omega) (by omega) (by rw [h]; rfl) (by decide) ?_
    exact law_c1 h0 nx n G g L f ρ _ _ _ hW hP hD hS hl
  · refine lv_tableIn (pc := 40) (off := 192) (tgt := 232) hx hb dL_law_40 (by omega) (by omega) (by rw [h]; rfl) (by decide) ?_
    exact law_c2 h0 nx n G g L f ρ _ _ _ hW hP hD hS hl
  · refine lv_tableIn (pc := 40) (off := 248) (tgt := 288) hx hb dL_law_40 (by omega) (by omega) (by rw [h]; rfl) (by decide) ?_
    exact law_c3 h0 nx n G g L f ρ _ _ _ hW hP hD hS hl
  · refine lv_tableIn (pc := 40) (off := 323) (tgt := 363) hx hb dL_law_40 (by omega) (by omega) (by rw [h]; rfl) (by decide) ?_
    exact law_c4 h0 nx n G g L f ρ _ _ _ hW hP hD hS hl
  · refine lv_tableIn (pc := 40) (off := 398) (tgt := 438) hx hb dL_law_40 (by omega) (by omega) (by rw [h]; rfl) (by decide) ?_
    exact law_c5 h0 nx n G g L f ρ _ _ _ hW hP hD hS hl
  · refine lv_tableIn (pc := 40) (off := 502) (tgt := 542) hx hb dL_law_40 (by omega) (by omega) (by rw [h]; rfl) (by decide) ?_
    exact law_c6 h0 nx n G g L f ρ _ _ _ hW hP hD hS hl
  · refine lv_tableIn (pc := 40) (off := 582) (tgt := 622) hx hb dL_law_40 (by omega) (by omega) (by rw [h]; rfl) (by decide) ?_
    exact law_c7 h0 nx n G g L f ρ _ _ _ hW hP hD hS hl
  · refine lv_tableIn (pc := 40) (off := 666) (tgt := 706) hx hb dL_law_40 (by omega) (by omega) (by rw [h]; rfl) (by decide) ?_
    exact law_c8 h0 nx n G g L f ρ _ _ _ hW hP hD hS hl
  · refine lv_tableIn (pc := 40) (off := 741) (tgt := 781) hx hb dL_law_40 (by omega) (by omega) (by rw [h]; rfl) (by decide) ?_
    exact law_c9 h0 nx n G g L f ρ _ _ _ hW hP hD hS hl
  · refine lv_tableIn (pc := 40) (off := 821) (tgt := 861) hx hb dL_law_40 (by omega) (by omega) (by rw [h]; rfl) (by decide) ?_
    exact law_c10 h0 nx n G g L f ρ _ _ _ hW hP hD hS hl
  · refine lv_tableIn (pc := 40) (off := 908) (tgt := 948) hx hb dL_law_40 (by omega) (by omega) (by rw [h]; rfl) (by decide) ?_
    exact law_c11 h0 nx n G g L f ρ _ _ _ hW hP hD hS hl
  · refine lv_tableIn (pc := 40) (off := 976) (tgt := 1016) hx hb dL_law_40 (by omega) (by omega) (by rw [h]; rfl) (by decide) ?_
    exact law_c12 h0 nx n G g L f ρ _ _ _ hW hP hD hS hl
  · refine lv_tableIn (pc := 40) (off := 989) (tgt := 1029) hx hb dL_law_40 (by omega) (by omega) (by rw [h]; rfl) (by decide) ?_
    exact law_c13 h0 nx n G g L f ρ _ _ _ hW hP hD hS hl
  · refine lv_tableIn (pc := 40) (off := 1002) (tgt := 1042) hx hb dL_law_40 (by omega) (by omega) (by rw [h]; rfl) (by decide) ?_
    exact law_c14 h0 nx n G g L f ρ _ _ _ hW hP hD hS hl
  · refine lv_tableIn (pc := 40) (off := 1046) (tgt := 1086) hx hb dL_law_40 (by omega) (by omega) (by rw [h]; rfl) (by decide) ?_
    exact law_c15 h0 nx n G g L f ρ _ _ _ hW hP hD hS hl
  · refine lv_tableIn (pc := 40) (off := 1114) (tgt := 1154) hx hb dL_law_40 (by omega) (by omega) (by rw [h]; rfl) (by decide) ?_
    exact law_c16 h0 nx n G g L f ρ _ _ _ hW hP hD hS hl
  · refine lv_tableIn (pc := 40) (off := 1170) (tgt := 1210) hx hb dL_law_40 (by omega) (by omega) (by rw [h]; rfl) (by decide) ?_
    exact law_c17 h0 nx n G g L f ρ _ _ _ hW hP hD hS hl
  · refine lv_tableIn (pc := 40) (off := 1238) (tgt := 1278) hx hb dL_law_40 (by omega) (by omega) (by rw [h]; rfl) (by decide) ?_
    exact law_c18 h0 nx n G g L f ρ _ _ _ hW hP hD hS hl
theorem LAT.head {p : Program} {l : Launch} {e : Env} {s : State} {m : MethodId} {b N : Nat} {xs : Nat → Int32} {below : List Frame} {meth : Method} {c : Code} {ε : EV} {x m0 : Nat} {ad : Nat → Nat} {o : Nat} {k : Nat} (hk : k ≤ 513) (hr : meth.sig.returnType = ret) (hlocks : meth.locks = false) (h0 : LC0 p l s m b N xs meth c ε) (nx : 7 * k + 7 ≤ N → LAT p l e s m b below meth c ε x m0 ad o (lw_Z below #[Value.ref b] s) 33 k k) : LAT p l e s m b below meth c ε x m0 ad o (lw_Z below #[Value.ref b] s) 23 k k := by
  intro n G g L f ρ H locs ls hW hP hD hS hl
  obtain ⟨⟨nm9, tb9, hC⟩, hE, hst, hX, hbl, hbA, hN2, hε⟩ := id h0
  have hx := hC.1
  have hb := hC.2.1
  refine lv_iload (pc := 23) hx hb dL_law_23 (lv_at hl 0 rfl) ?_
  refine lv_aload_n (pc := 25) hx hb dL_law_25 rfl (lv_at hl 1 rfl) ?_
  refine r_slen (pc := 26) hC hX hbl hbA hS dL_law_26 ?_
  refine lv_bipush (pc := 27) (v := iv 7) hx hb dL_law_27 (by decide) ?_
  refine r_isub (pc := 29) (a := (N : Int)) (b := 7) hx hb dL_law_29 ?_
  refine r_icmp_gt (pc := 30) (a := 7 * (k : Int)) (b := (N : Int) - 7) hx hb dL_law_30 (tgt := 1402) (by decide) ⟨by omega, by omega⟩ ⟨by omega, by omega⟩ (fun c9 => ?_) (fun c9 => ?_)
  · refine lv_iconst (pc := 1402) (v := 1) hx hb dL_law_1402 (by decide) ?_
    refine va_forget (fun q hq => by have z := hS.2.2 q hq; have z2 : ε.1 ≤ q.base := z; omega) ?_
    refine W.widen (k := 601024) (n := 7293034) (by omega) (by omega) ?_
    exact lw_ret hx hb hr hlocks dL_law_1403
  · exact nx (by omega) n G g L f ρ _ _ _ hW hP hD hS hl
theorem law_loop {p : Program} {l : Launch} {e : Env} {s : State} {m : MethodId} {b N : Nat} {xs : Nat → Int32} {below : List Frame} {meth : Method} {c : Code} {ε : EV} {x m0 : Nat} {ad : Nat → Nat} {o : Nat} (hr : meth.sig.returnType = ret) (hlocks : meth.locks = false) (h0 : LC0 p l s m b N xs meth c ε) : ∀ fuel k : Nat, k + fuel = 513 → LAT p l e s m b below meth c ε x m0 ad o (lw_Z below #[Value.ref b] s) 23 k k := by
  intro fuel
  induction fuel with
  | zero => intro k hk; exact LAT.head (by omega) hr hlocks h0 (fun h => absurd h (by have z := h0.2.2.2.2.2.2.1; omega))
  | succ fuel ih =>
    intro k hk
    refine LAT.head (by omega) hr hlocks h0 (fun h => ?_)
    refine LAT.call (N := N) (xs := xs) ⟨h0.1, h0.2.1, h0.2.2.1, h0.2.2.2.1, h0.2.2.2.2.1, h0.2.2.2.2.2.1, h, h0.2.2.2.2.2.2.1⟩ ?_
    intro n G g L f ρ H locs ls hW hP hD hS hl
    obtain ⟨nm9, tb9, hC⟩ := h0.1
    have hx := hC.1
    have hb := hC.2.1
    refine lv_iinc (pc := 1396) (v := iv (7 * (k : Int) + 7)) (lv' := [(4, .int (iv (7 * (k : Int) + 7))), (0, .ref b), (1, .ref x), (2, .ref m0), (3, .ref o)]) hx hb dL_law_1396 hl (k := 0) rfl (iv_add _ _) (by decide) rfl (fun ls hl => ?_)
    refine lv_goto (pc := 1399) (tgt := 23) hx hb dL_law_1399 (by decide) ?_
    rw [show 7 * (k : Int) + 7 = 7 * ((k + 1 : Nat) : Int) by omega] at hl
    exact ih (k + 1) (by omega) n G g L f ρ _ _ _ hW hP hD hS hl
