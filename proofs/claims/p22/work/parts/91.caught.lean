/-! the law's callers: what is caught -/
section LR
variable {p : Program} {l : Launch} {e : Env} {R : Room} {s : State} {m : MethodId} {args : Array Value} {below : List Frame} {meth : Method} {c : Code} {H H0 : Heap} {locs : List Loc} {cells slots : Nat} {Q : State → Prop}
variable {cc : ByteArray} {pc : Nat} {ls : Array Slot} {rest : List Value} {ε : EV} {mL : Nat} {ret : Option FieldType} {own nm : String} {tb : List ExceptionTableEntry}
theorem c_catch {E : String} {ce : Cell} {q9 : Addr} {pre suf : List ExceptionTableEntry} {xr : ExceptionTableEntry} (hC : CTX p s m args meth c cc mL ret RL nm tb) (hE : ENV ε s s.heap) (hcast : Cond.castable E E ∈ castW) (hmem : E ∈ [nIAE, nISE, nIOE]) (hsplit : tb = pre ++ xr :: suf)
    (hpass : ∀ z ∈ pre, z.catchType ≠ 0 ∧ ∃ b : String, b ∈ [nIAE, nISE, nIOE] ∧ E ≠ b ∧ Cond.classLink RL z.catchType b ∈ WALL) (hx : covers xr pc = true) (h0 : xr.catchType ≠ 0) (hlink : Cond.classLink RL xr.catchType E ∈ WALL) (h1 : H[q9]? = some ce) (h2 : ce.vm = .none) (h3 : s.vm.findClass E = some ce.cls)
    (kk : W p l e R s m args below meth c H locs cells slots Q (F0 m xr.handlerPc ls [.ref q9])) : vx_W p l e R s m args below meth c H locs cells slots Q (F0 m pc ls rest) q9 := by
  obtain ⟨-, -, -, ho, hts, -, -, htb, -⟩ := hC
  obtain ⟨C9, T9, h9, h8⟩ := hE.2.2.1 _ hcast
  cases h9
  refine vx_catch ho pre xr suf (htb.trans hsplit) (fun z hz => Or.inr ?_) hx h0 (hts _ hlink) (va_Nw.use rfl h8) h1 h2 h3 kk
  obtain ⟨k1, b, k2, k3, k4⟩ := hpass z hz
  exact ⟨k1, b, hts _ k4, hE.2.2.2.1 E hmem b k2 k3⟩
end LR
abbrev rm_A_phase_ok : Room := { frames := 8, cells := 2, slots := 12, locals := 151 }
set_option maxRecDepth 100000 in
set_option maxHeartbeats 4000000 in
theorem A_phase_ok (l : Launch) (ε : EV) {x : Nat} {n : Nat → Int} {G : Nat → Nat → Int} {wd : va_W} (hst : l.stackTraces = false) (hH : HS ε x n G wd) (a : Int) (b : Int) (c : Int) (ra : rg a) (rb : rg b) (rc : rg c)  (h9 : (1 ≤ a ∧ a ≤ 9) ∧ n 0 < 6) : CTW l yL_act cL_act 6 (some .int) [(0, 249, 250, 61), (0, 249, 255, 63), (0, 249, 260, 65)] rm_A_phase_ok ε [.ref x, .int (iv 0), .int (iv a), .int (iv b), .int (iv c)] (wd) (fun v w9 => v = some (.int (iv (n 0 + 1))) ∧ HS ε x (va_up n 0 (n 0 + 1)) (va_up G 0 (va_up (G 0) (n 0).toNat a)) w9) NX := by
  refine CTW.intro (by decide +kernel) (Nat.le_of_ble_eq_true rfl) ?_
  intro p9 e9 s9 m9 a9 bl9 me9 c9 ls Q9 hC hE hP hD hl hQ
  have hx := hC.1
  have hb := hC.2.1
  have hK := hE.K
  have hS : WS ε s9.heap s9.heap [] := va_S.rf
  have hl : lv_has ls 6 [(0, .ref x), (1, .int (iv 0)), (2, .int (iv a)), (3, .int (iv b)), (4, .int (iv c))] := hl
  obtain ⟨H, hH⟩ : ∃ H, H = s9.heap := ⟨_, rfl⟩
  obtain ⟨locs, hlo⟩ : ∃ z : List Loc, z = [] := ⟨_, rfl⟩
  rw [← hH] at hP ⊢
  have hS : WS ε s9.heap H locs := by rw [hH, hlo]; exact hS
  rw [← hlo]
  clear hH hlo
  obtain ⟨fo, hob⟩ := hH.ob
  have hN := hH.inv.NB
  have hI := hH.inv
  refine lv_iload_n (pc := 0) hx hb dL_act_0 rfl (lv_at hl 1 rfl) ?_
  refine r_if_ne (pc := 1) (a := 0) hx hb dL_act_1 (tgt := 12) (by decide) ⟨by omega, by omega⟩ (fun c_1 => ?_) (fun c_1 => ?_)
  · exact absurd c_1 (by decide)
  · have c_1_ := c_1
    refine lv_aload_n (pc := 4) hx hb dL_act_4 rfl (lv_at hl 0 rfl) ?_
    refine lv_iload_n (pc := 5) hx hb dL_act_5 rfl (lv_at hl 2 rfl) ?_
    refine c_callV (pc := 6) (y := yX4_phase) (As := [.int (iv a)]) (rest := []) hC hE hP hD hS hl.1 (KX_phase l ε hst hH a ra) m_4_24 m_5_0 m_5_1 m_0_2 m_5_2 hob rfl hd_yX4_phase rfl ⟨⟨by decide, by decide⟩, by decide, by decide⟩ (Nat.le_of_ble_eq_true rfl) rfl dL_act_6 ?_ ?_
    · intro E9 ce9 q9 w9 H locs hq hP hD hS e1 e2 e3
      rcases hq with hq | hq
      · have hc9 := hq.1
        exfalso
        omega
      · have hc9 := hq.1
        exfalso
        omega
    · intro v9 w9 H locs hq hP hD hS
      obtain ⟨hc9, hv_, hs_⟩ := hq
      rw [hv_]
      clear hv_
      dsimp only [Option.toList, List.cons_append, List.nil_append]
      refine lv_goto (pc := 9) (tgt := 249) hx hb dL_act_9 (by decide) ?_
      refine c_iret (pc := 249) hC hQ hP hD hS (by decide) (by decide) dL_act_249 ?_
      exact ⟨rfl, hs_⟩

abbrev rm_A_phase_ia : Room := { frames := 8, cells := 2, slots := 12, locals := 151 }
set_option maxRecDepth 100000 in
set_option maxHeartbeats 4000000 in
theorem A_phase_ia (l : Launch) (ε : EV) {x : Nat} {n : Nat → Int} {G : Nat → Nat → Int} {wd : va_W} (hst : l.stackTraces = false) (hH : HS ε x n G wd) (a : Int) (b : Int) (c : Int) (ra : rg a) (rb : rg b) (rc : rg c)  (h9 : ¬ (1 ≤ a ∧ a ≤ 9)) : CTW l yL_act cL_act 6 (some .int) [(0, 249, 250, 61), (0, 249, 255, 63), (0, 249, 260, 65)] rm_A_phase_ia ε [.ref x, .int (iv 0), .int (iv a), .int (iv b), .int (iv c)] (wd) (fun v w9 => v = some (.int (iv (-72))) ∧ w9 = wd) NX := by
  refine CTW.intro (by decide +kernel) (Nat.le_of_ble_eq_true rfl) ?_
  intro p9 e9 s9 m9 a9 bl9 me9 c9 ls Q9 hC hE hP hD hl hQ
  have hx := hC.1
  have hb := hC.2.1
  have hK := hE.K
  have hS : WS ε s9.heap s9.heap [] := va_S.rf
  have hl : lv_has ls 6 [(0, .ref x), (1, .int (iv 0)), (2, .int (iv a)), (3, .int (iv b)), (4, .int (iv c))] := hl
  obtain ⟨H, hH⟩ : ∃ H, H = s9.heap := ⟨_, rfl⟩
  obtain ⟨locs, hlo⟩ : ∃ z : List Loc, z = [] := ⟨_, rfl⟩
  rw [← hH] at hP ⊢
  have hS : WS ε s9.heap H locs := by rw [hH, hlo]; exact hS
  rw [← hlo]
  clear hH hlo
  obtain ⟨fo, hob⟩ := hH.ob
  have hN := hH.inv.NB
  have hI := hH.inv
  refine lv_iload_n (pc := 0) hx hb dL_act_0 rfl (lv_at hl 1 rfl) ?_
  refine r_if_ne (pc := 1) (a := 0) hx hb dL_act_1 (tgt := 12) (by decide) ⟨by omega, by omega⟩ (fun c_1 => ?_) (fun c_1 => ?_)
  · exact absurd c_1 (by decide)
  · have c_1_ := c_1
    refine lv_aload_n (pc := 4) hx hb dL_act_4 rfl (lv_at hl 0 rfl) ?_
    refine lv_iload_n (pc := 5) hx hb dL_act_5 rfl (lv_at hl 2 rfl) ?_
    refine c_callV (pc := 6) (y := yX4_phase) (As := [.int (iv a)]) (rest := []) hC hE hP hD hS hl.1 (KX_phase l ε hst hH a ra) m_4_24 m_5_0 m_5_1 m_0_2 m_5_2 hob rfl hd_yX4_phase rfl ⟨⟨by decide, by decide⟩, by decide, by decide⟩ (Nat.le_of_ble_eq_true rfl) rfl dL_act_6 ?_ ?_
    · intro E9 ce9 q9 w9 H locs hq hP hD hS e1 e2 e3
      rcases hq with hq | hq
      · obtain ⟨hc9, rfl, hw9⟩ := hq
        rw [hw9] at hP hD
        refine c_catch (pc := 6) (E := nIAE) (pre := [⟨0, 249, 250, 61⟩]) (xr := ⟨0, 249, 255, 63⟩) (suf := [⟨0, 249, 260, 65⟩]) hC hE (by decide +kernel) (by decide +kernel) rfl (List.forall_mem_cons.mpr ⟨⟨by decide, nIOE, by decide +kernel, by decide +kernel, m_4_21⟩, fun _ h => absurd h List.not_mem_nil⟩) (by decide) (by decide) m_4_22 e1 e2 e3 ?_
        refine lv_astore (lv' := [(5, .ref q9), (0, .ref x), (1, .int (iv 0)), (2, .int (iv a)), (3, .int (iv b)), (4, .int (iv c))]) (pc := 255) hx hb dL_act_255 hl (by decide) rfl (fun ls hl => ?_)
        refine lv_bipush (pc := 257) (v := iv (-72)) hx hb dL_act_257 (by decide) ?_
        refine c_iret (pc := 259) hC hQ hP hD hS (by decide) (by decide) dL_act_259 ?_
        exact ⟨rfl, rfl⟩
      · have hc9 := hq.1
        exfalso
        omega
    · intro v9 w9 H locs hq hP hD hS
      have hc9 := hq.1
      exfalso
      omega

abbrev rm_A_phase_is : Room := { frames := 8, cells := 2, slots := 12, locals := 151 }
set_option maxRecDepth 100000 in
set_option maxHeartbeats 4000000 in
theorem A_phase_is (l : Launch) (ε : EV) {x : Nat} {n : Nat → Int} {G : Nat → Nat → Int} {wd : va_W} (hst : l.stackTraces = false) (hH : HS ε x n G wd) (a : Int) (b : Int) (c : Int) (ra : rg a) (rb : rg b) (rc : rg c)  (h9 : (1 ≤ a ∧ a ≤ 9) ∧ n 0 = 6) : CTW l yL_act cL_act 6 (some .int) [(0, 249, 250, 61), (0, 249, 255, 63), (0, 249, 260, 65)] rm_A_phase_is ε [.ref x, .int (iv 0), .int (iv a), .int (iv b), .int (iv c)] (wd) (fun v w9 => v = some (.int (iv (-73))) ∧ w9 = wd) NX := by
  refine CTW.intro (by decide +kernel) (Nat.le_of_ble_eq_true rfl) ?_
  intro p9 e9 s9 m9 a9 bl9 me9 c9 ls Q9 hC hE hP hD hl hQ
  have hx := hC.1
  have hb := hC.2.1
  have hK := hE.K
  have hS : WS ε s9.heap s9.heap [] := va_S.rf
  have hl : lv_has ls 6 [(0, .ref x), (1, .int (iv 0)), (2, .int (iv a)), (3, .int (iv b)), (4, .int (iv c))] := hl
  obtain ⟨H, hH⟩ : ∃ H, H = s9.heap := ⟨_, rfl⟩
  obtain ⟨locs, hlo⟩ : ∃ z : List Loc, z = [] := ⟨_, rfl⟩
  rw [← hH] at hP ⊢
  have hS : WS ε s9.heap H locs := by rw [hH, hlo]; exact hS
  rw [← hlo]
  clear hH hlo
  obtain ⟨fo, hob⟩ := hH.ob
  have hN := hH.inv.NB
  have hI := hH.inv
  refine lv_iload_n (pc := 0) hx hb dL_act_0 rfl (lv_at hl 1 rfl) ?_
  refine r_if_ne (pc := 1) (a := 0) hx hb dL_act_1 (tgt := 12) (by decide) ⟨by omega, by omega⟩ (fun c_1 => ?_) (fun c_1 => ?_)
  · exact absurd c_1 (by decide)
  · have c_1_ := c_1
    refine lv_aload_n (pc := 4) hx hb dL_act_4 rfl (lv_at hl 0 rfl) ?_
    refine lv_iload_n (pc := 5) hx hb dL_act_5 rfl (lv_at hl 2 rfl) ?_
    refine c_callV (pc := 6) (y := yX4_phase) (As := [.int (iv a)]) (rest := []) hC hE hP hD hS hl.1 (KX_phase l ε hst hH a ra) m_4_24 m_5_0 m_5_1 m_0_2 m_5_2 hob rfl hd_yX4_phase rfl ⟨⟨by decide, by decide⟩, by decide, by decide⟩ (Nat.le_of_ble_eq_true rfl) rfl dL_act_6 ?_ ?_
    · intro E9 ce9 q9 w9 H locs hq hP hD hS e1 e2 e3
      rcases hq with hq | hq
      · have hc9 := hq.1
        exfalso
        omega
      · obtain ⟨hc9, rfl, hw9⟩ := hq
        rw [hw9] at hP hD
        refine c_catch (pc := 6) (E := nISE) (pre := [⟨0, 249, 250, 61⟩, ⟨0, 249, 255, 63⟩]) (xr := ⟨0, 249, 260, 65⟩) (suf := []) hC hE (by decide +kernel) (by decide +kernel) rfl (List.forall_mem_cons.mpr ⟨⟨by decide, nIOE, by decide +kernel, by decide +kernel, m_4_21⟩, List.forall_mem_cons.mpr ⟨⟨by decide, nIAE, by decide +kernel, by decide +kernel, m_4_22⟩, fun _ h => absurd h List.not_mem_nil⟩⟩) (by decide) (by decide) m_4_23 e1 e2 e3 ?_
        refine lv_astore (lv' := [(5, .ref q9), (0, .ref x), (1, .int (iv 0)), (2, .int (iv a)), (3, .int (iv b)), (4, .int (iv c))]) (pc := 260) hx hb dL_act_260 hl (by decide) rfl (fun ls hl => ?_)
        refine lv_bipush (pc := 262) (v := iv (-73)) hx hb dL_act_262 (by decide) ?_
        refine c_iret (pc := 264) hC hQ hP hD hS (by decide) (by decide) dL_act_264 ?_
        exact ⟨rfl, rfl⟩
    · intro v9 w9 H locs hq hP hD hS
      have hc9 := hq.1
      exfalso
      omega

abbrev rm_A_pattern_is : Room := { frames := 9, cells := 5, slots := 3100, locals := 420 }
set_option maxRecDepth 100000 in
set_option maxHeartbeats 4000000 in
theorem A_pattern_is (l : Launch) (ε : EV) {x : Nat} {n : Nat → Int} {G : Nat → Nat → Int} {wd : va_W} (hst : l.stackTraces = false) (hH : HS ε x n G wd) (a : Int) (b : Int) (c : Int) (ra : rg a) (rb : rg b) (rc : rg c)  (h9 : ¬ ((n 0 = 2 ∨ n 0 = 4 ∨ n 0 = 6) ∧ n 1 < 20)) : CTW l yL_act cL_act 6 (some .int) [(0, 249, 250, 61), (0, 249, 255, 63), (0, 249, 260, 65)] rm_A_pattern_is ε [.ref x, .int (iv 1), .int (iv a), .int (iv b), .int (iv c)] (wd) (fun v w9 => v = some (.int (iv (-73))) ∧ w9 = wd) NX := by
  refine CTW.intro (by decide +kernel) (Nat.le_of_ble_eq_true rfl) ?_
  intro p9 e9 s9 m9 a9 bl9 me9 c9 ls Q9 hC hE hP hD hl hQ
  have hx := hC.1
  have hb := hC.2.1
  have hK := hE.K
  have hS : WS ε s9.heap s9.heap [] := va_S.rf
  have hl : lv_has ls 6 [(0, .ref x), (1, .int (iv 1)), (2, .int (iv a)), (3, .int (iv b)), (4, .int (iv c))] := hl
  obtain ⟨H, hH⟩ : ∃ H, H = s9.heap := ⟨_, rfl⟩
  obtain ⟨locs, hlo⟩ : ∃ z : List Loc, z = [] := ⟨_, rfl⟩
  rw [← hH] at hP ⊢
  have hS : WS ε s9.heap H locs := by rw [hH, hlo]; exact hS
  rw [← hlo]
  clear hH hlo
  obtain ⟨fo, hob⟩ := hH.ob
  have hN := hH.inv.NB
  have hI := hH.inv
  refine lv_iload_n (pc := 0) hx hb dL_act_0 rfl (lv_at hl 1 rfl) ?_
  refine r_if_ne (pc := 1) (a := 1) hx hb dL_act_1 (tgt := 12) (by decide) ⟨by omega, by omega⟩ (fun c_1 => ?_) (fun c_1 => ?_)
  · have c_1_ := c_1
    refine lv_iload_n (pc := 12) hx hb dL_act_12 rfl (lv_at hl 1 rfl) ?_
    refine lv_iconst (pc := 13) (v := iv 1) hx hb dL_act_13 rfl ?_
    refine r_icmp_ne (pc := 14) (a := 1) (b := 1) hx hb dL_act_14 (tgt := 24) (by decide) ⟨by omega, by omega⟩ ⟨by omega, by omega⟩ (fun c_14 => ?_) (fun c_14 => ?_)
    · exact absurd c_14 (by decide)
    · have c_14_ := c_14
      refine lv_aload_n (pc := 17) hx hb dL_act_17 rfl (lv_at hl 0 rfl) ?_
      refine c_callV (pc := 18) (y := yX4_pattern) (As := []) (rest := []) hC hE hP hD hS hl.1 (KX_pattern l ε hst hH ) m_5_10 m_5_11 m_5_12 m_0_2 m_5_13 hob rfl hd_yX4_pattern rfl ⟨⟨by decide, by decide⟩, by decide, by decide⟩ (Nat.le_of_ble_eq_true rfl) rfl dL_act_18 ?_ ?_
      · intro E9 ce9 q9 w9 H locs hq hP hD hS e1 e2 e3
        obtain ⟨hc9, rfl, hw9⟩ := hq
        rw [hw9] at hP hD
        refine c_catch (pc := 18) (E := nISE) (pre := [⟨0, 249, 250, 61⟩, ⟨0, 249, 255, 63⟩]) (xr := ⟨0, 249, 260, 65⟩) (suf := []) hC hE (by decide +kernel) (by decide +kernel) rfl (List.forall_mem_cons.mpr ⟨⟨by decide, nIOE, by decide +kernel, by decide +kernel, m_4_21⟩, List.forall_mem_cons.mpr ⟨⟨by decide, nIAE, by decide +kernel, by decide +kernel, m_4_22⟩, fun _ h => absurd h List.not_mem_nil⟩⟩) (by decide) (by decide) m_4_23 e1 e2 e3 ?_
        refine lv_astore (lv' := [(5, .ref q9), (0, .ref x), (1, .int (iv 1)), (2, .int (iv a)), (3, .int (iv b)), (4, .int (iv c))]) (pc := 260) hx hb dL_act_260 hl (by decide) rfl (fun ls hl => ?_)
        refine lv_bipush (pc := 262) (v := iv (-73)) hx hb dL_act_262 (by decide) ?_
        refine c_iret (pc := 264) hC hQ hP hD hS (by decide) (by decide) dL_act_264 ?_
        exact ⟨rfl, rfl⟩
      · intro v9 w9 H locs hq hP hD hS
        have hc9 := hq.1
        exfalso
        omega
  · exact absurd c_1 (by decide)

abbrev rm_A_period_io : Room := { frames := 9, cells := 1, slots := 6, locals := 201 }
set_option maxRecDepth 100000 in
set_option maxHeartbeats 4000000 in
theorem A_period_io (l : Launch) (ε : EV) {x : Nat} {n : Nat → Int} {G : Nat → Nat → Int} {wd : va_W} (hst : l.stackTraces = false) (hH : HS ε x n G wd) (a : Int) (b : Int) (c : Int) (ra : rg a) (rb : rg b) (rc : rg c)  (h9 : ¬ (0 ≤ a ∧ a < n 1)) : CTW l yL_act cL_act 6 (some .int) [(0, 249, 250, 61), (0, 249, 255, 63), (0, 249, 260, 65)] rm_A_period_io ε [.ref x, .int (iv 2), .int (iv a), .int (iv b), .int (iv c)] (wd) (fun v w9 => v = some (.int (iv (-71))) ∧ w9 = wd) NX := by
  refine CTW.intro (by decide +kernel) (Nat.le_of_ble_eq_true rfl) ?_
  intro p9 e9 s9 m9 a9 bl9 me9 c9 ls Q9 hC hE hP hD hl hQ
  have hx := hC.1
  have hb := hC.2.1
  have hK := hE.K
  have hS : WS ε s9.heap s9.heap [] := va_S.rf
  have hl : lv_has ls 6 [(0, .ref x), (1, .int (iv 2)), (2, .int (iv a)), (3, .int (iv b)), (4, .int (iv c))] := hl
  obtain ⟨H, hH⟩ : ∃ H, H = s9.heap := ⟨_, rfl⟩
  obtain ⟨locs, hlo⟩ : ∃ z : List Loc, z = [] := ⟨_, rfl⟩
  rw [← hH] at hP ⊢
  have hS : WS ε s9.heap H locs := by rw [hH, hlo]; exact hS
  rw [← hlo]
  clear hH hlo
  obtain ⟨fo, hob⟩ := hH.ob
  have hN := hH.inv.NB
  have hI := hH.inv
  refine lv_iload_n (pc := 0) hx hb dL_act_0 rfl (lv_at hl 1 rfl) ?_
  refine r_if_ne (pc := 1) (a := 2) hx hb dL_act_1 (tgt := 12) (by decide) ⟨by omega, by omega⟩ (fun c_1 => ?_) (fun c_1 => ?_)
  · have c_1_ := c_1
    refine lv_iload_n (pc := 12) hx hb dL_act_12 rfl (lv_at hl 1 rfl) ?_
    refine lv_iconst (pc := 13) (v := iv 1) hx hb dL_act_13 rfl ?_
    refine r_icmp_ne (pc := 14) (a := 2) (b := 1) hx hb dL_act_14 (tgt := 24) (by decide) ⟨by omega, by omega⟩ ⟨by omega, by omega⟩ (fun c_14 => ?_) (fun c_14 => ?_)
    · have c_14_ := c_14
      refine lv_iload_n (pc := 24) hx hb dL_act_24 rfl (lv_at hl 1 rfl) ?_
      refine lv_iconst (pc := 25) (v := iv 2) hx hb dL_act_25 rfl ?_
      refine r_icmp_ne (pc := 26) (a := 2) (b := 2) hx hb dL_act_26 (tgt := 37) (by decide) ⟨by omega, by omega⟩ ⟨by omega, by omega⟩ (fun c_26 => ?_) (fun c_26 => ?_)
      · exact absurd c_26 (by decide)
      · have c_26_ := c_26
        refine lv_aload_n (pc := 29) hx hb dL_act_29 rfl (lv_at hl 0 rfl) ?_
        refine lv_iload_n (pc := 30) hx hb dL_act_30 rfl (lv_at hl 2 rfl) ?_
        refine c_callV (pc := 31) (y := yX4_period) (As := [.int (iv a)]) (rest := []) hC hE hP hD hS hl.1 (c_R_period l ε wd hst x n G hH.rd hN hI.2.1 hI.2.2.1 a ra) m_8_15 m_8_16 m_8_17 m_0_2 m_8_18 hob rfl hd_yX4_period rfl ⟨⟨by decide, by decide⟩, by decide, by decide⟩ (Nat.le_of_ble_eq_true rfl) rfl dL_act_31 ?_ ?_
        · intro E9 ce9 q9 w9 H locs hq hP hD hS e1 e2 e3
          obtain ⟨hc9, rfl, hw9⟩ := hq
          rw [hw9] at hP hD
          refine c_catch (pc := 31) (E := nIOE) (pre := []) (xr := ⟨0, 249, 250, 61⟩) (suf := [⟨0, 249, 255, 63⟩, ⟨0, 249, 260, 65⟩]) hC hE (by decide +kernel) (by decide +kernel) rfl (fun _ h => absurd h List.not_mem_nil) (by decide) (by decide) m_4_21 e1 e2 e3 ?_
          refine lv_astore (lv' := [(5, .ref q9), (0, .ref x), (1, .int (iv 2)), (2, .int (iv a)), (3, .int (iv b)), (4, .int (iv c))]) (pc := 250) hx hb dL_act_250 hl (by decide) rfl (fun ls hl => ?_)
          refine lv_bipush (pc := 252) (v := iv (-71)) hx hb dL_act_252 (by decide) ?_
          refine c_iret (pc := 254) hC hQ hP hD hS (by decide) (by decide) dL_act_254 ?_
          exact ⟨rfl, rfl⟩
        · intro v9 w9 H locs hq hP hD hS
          have hc9 := hq.1
          exfalso
          omega
    · exact absurd c_14 (by decide)
  · exact absurd c_1 (by decide)

abbrev rm_A_alike_io : Room := { frames := 9, cells := 2, slots := 12, locals := 202 }
set_option maxRecDepth 100000 in
set_option maxHeartbeats 4000000 in
theorem A_alike_io (l : Launch) (ε : EV) {x : Nat} {n : Nat → Int} {G : Nat → Nat → Int} {wd : va_W} (hst : l.stackTraces = false) (hH : HS ε x n G wd) (a : Int) (b : Int) (c : Int) (ra : rg a) (rb : rg b) (rc : rg c)  (h9 : ¬ ((0 ≤ a ∧ a < n 1) ∧ 0 ≤ b ∧ b < n 1)) : CTW l yL_act cL_act 6 (some .int) [(0, 249, 250, 61), (0, 249, 255, 63), (0, 249, 260, 65)] rm_A_alike_io ε [.ref x, .int (iv 3), .int (iv a), .int (iv b), .int (iv c)] (wd) (fun v w9 => v = some (.int (iv (-71))) ∧ w9 = wd) NX := by
  refine CTW.intro (by decide +kernel) (Nat.le_of_ble_eq_true rfl) ?_
  intro p9 e9 s9 m9 a9 bl9 me9 c9 ls Q9 hC hE hP hD hl hQ
  have hx := hC.1
  have hb := hC.2.1
  have hK := hE.K
  have hS : WS ε s9.heap s9.heap [] := va_S.rf
  have hl : lv_has ls 6 [(0, .ref x), (1, .int (iv 3)), (2, .int (iv a)), (3, .int (iv b)), (4, .int (iv c))] := hl
  obtain ⟨H, hH⟩ : ∃ H, H = s9.heap := ⟨_, rfl⟩
  obtain ⟨locs, hlo⟩ : ∃ z : List Loc, z = [] := ⟨_, rfl⟩
  rw [← hH] at hP ⊢
  have hS : WS ε s9.heap H locs := by rw [hH, hlo]; exact hS
  rw [← hlo]
  clear hH hlo
  obtain ⟨fo, hob⟩ := hH.ob
  have hN := hH.inv.NB
  have hI := hH.inv
  refine lv_iload_n (pc := 0) hx hb dL_act_0 rfl (lv_at hl 1 rfl) ?_
  refine r_if_ne (pc := 1) (a := 3) hx hb dL_act_1 (tgt := 12) (by decide) ⟨by omega, by omega⟩ (fun c_1 => ?_) (fun c_1 => ?_)
  · have c_1_ := c_1
    refine lv_iload_n (pc := 12) hx hb dL_act_12 rfl (lv_at hl 1 rfl) ?_
    refine lv_iconst (pc := 13) (v := iv 1) hx hb dL_act_13 rfl ?_
    refine r_icmp_ne (pc := 14) (a := 3) (b := 1) hx hb dL_act_14 (tgt := 24) (by decide) ⟨by omega, by omega⟩ ⟨by omega, by omega⟩ (fun c_14 => ?_) (fun c_14 => ?_)
    · have c_14_ := c_14
      refine lv_iload_n (pc := 24) hx hb dL_act_24 rfl (lv_at hl 1 rfl) ?_
      refine lv_iconst (pc := 25) (v := iv 2) hx hb dL_act_25 rfl ?_
      refine r_icmp_ne (pc := 26) (a := 3) (b := 2) hx hb dL_act_26 (tgt := 37) (by decide) ⟨by omega, by omega⟩ ⟨by omega, by omega⟩ (fun c_26 => ?_) (fun c_26 => ?_)
      · have c_26_ := c_26
        refine lv_iload_n (pc := 37) hx hb dL_act_37 rfl (lv_at hl 1 rfl) ?_
        refine lv_iconst (pc := 38) (v := iv 3) hx hb dL_act_38 rfl ?_
        refine r_icmp_ne (pc := 39) (a := 3) (b := 3) hx hb dL_act_39 (tgt := 59) (by decide) ⟨by omega, by omega⟩ ⟨by omega, by omega⟩ (fun c_39 => ?_) (fun c_39 => ?_)
        · exact absurd c_39 (by decide)
        · have c_39_ := c_39
          refine lv_aload_n (pc := 42) hx hb dL_act_42 rfl (lv_at hl 0 rfl) ?_
          refine lv_iload_n (pc := 43) hx hb dL_act_43 rfl (lv_at hl 2 rfl) ?_
          refine lv_iload_n (pc := 44) hx hb dL_act_44 rfl (lv_at hl 3 rfl) ?_
          refine c_callV (pc := 45) (y := yX4_areAlike) (As := [.int (iv a), .int (iv b)]) (rest := []) hC hE hP hD hS hl.1 (c_R_areAlike l ε wd hst x n G hH.rd hN hI.2.1 hI.2.2.1 a ra b rb) m_8_20 m_8_21 m_8_22 m_0_2 m_8_23 hob rfl hd_yX4_areAlike rfl ⟨⟨by decide, by decide⟩, by decide, by decide⟩ (Nat.le_of_ble_eq_true rfl) rfl dL_act_45 ?_ ?_
          · intro E9 ce9 q9 w9 H locs hq hP hD hS e1 e2 e3
            obtain ⟨hc9, rfl, hw9⟩ := hq
            rw [hw9] at hP hD
            refine c_catch (pc := 45) (E := nIOE) (pre := []) (xr := ⟨0, 249, 250, 61⟩) (suf := [⟨0, 249, 255, 63⟩, ⟨0, 249, 260, 65⟩]) hC hE (by decide +kernel) (by decide +kernel) rfl (fun _ h => absurd h List.not_mem_nil) (by decide) (by decide) m_4_21 e1 e2 e3 ?_
            refine lv_astore (lv' := [(5, .ref q9), (0, .ref x), (1, .int (iv 3)), (2, .int (iv a)), (3, .int (iv b)), (4, .int (iv c))]) (pc := 250) hx hb dL_act_250 hl (by decide) rfl (fun ls hl => ?_)
            refine lv_bipush (pc := 252) (v := iv (-71)) hx hb dL_act_252 (by decide) ?_
            refine c_iret (pc := 254) hC hQ hP hD hS (by decide) (by decide) dL_act_254 ?_
            exact ⟨rfl, rfl⟩
          · intro v9 w9 H locs hq hP hD hS
            have hc9 := hq.1
            exfalso
            omega
      · exact absurd c_26 (by decide)
    · exact absurd c_14 (by decide)
  · exact absurd c_1 (by decide)

abbrev rm_A_alikes_io : Room := { frames := 9, cells := 2, slots := 12, locals := 202 }
set_option maxRecDepth 100000 in
set_option maxHeartbeats 4000000 in
theorem A_alikes_io (l : Launch) (ε : EV) {x : Nat} {n : Nat → Int} {G : Nat → Nat → Int} {wd : va_W} (hst : l.stackTraces = false) (hH : HS ε x n G wd) (a : Int) (b : Int) (c : Int) (ra : rg a) (rb : rg b) (rc : rg c)  (h9 : ¬ ((0 ≤ a ∧ a < n 1) ∧ 0 ≤ b ∧ b < n 1)) : CTW l yL_act cL_act 6 (some .int) [(0, 249, 250, 61), (0, 249, 255, 63), (0, 249, 260, 65)] rm_A_alikes_io ε [.ref x, .int (iv 4), .int (iv a), .int (iv b), .int (iv c)] (wd) (fun v w9 => v = some (.int (iv (-71))) ∧ w9 = wd) NX := by
  refine CTW.intro (by decide +kernel) (Nat.le_of_ble_eq_true rfl) ?_
  intro p9 e9 s9 m9 a9 bl9 me9 c9 ls Q9 hC hE hP hD hl hQ
  have hx := hC.1
  have hb := hC.2.1
  have hK := hE.K
  have hS : WS ε s9.heap s9.heap [] := va_S.rf
  have hl : lv_has ls 6 [(0, .ref x), (1, .int (iv 4)), (2, .int (iv a)), (3, .int (iv b)), (4, .int (iv c))] := hl
  obtain ⟨H, hH⟩ : ∃ H, H = s9.heap := ⟨_, rfl⟩
  obtain ⟨locs, hlo⟩ : ∃ z : List Loc, z = [] := ⟨_, rfl⟩
  rw [← hH] at hP ⊢
  have hS : WS ε s9.heap H locs := by rw [hH, hlo]; exact hS
  rw [← hlo]
  clear hH hlo
  obtain ⟨fo, hob⟩ := hH.ob
  have hN := hH.inv.NB
  have hI := hH.inv
  refine lv_iload_n (pc := 0) hx hb dL_act_0 rfl (lv_at hl 1 rfl) ?_
  refine r_if_ne (pc := 1) (a := 4) hx hb dL_act_1 (tgt := 12) (by decide) ⟨by omega, by omega⟩ (fun c_1 => ?_) (fun c_1 => ?_)
  · have c_1_ := c_1
    refine lv_iload_n (pc := 12) hx hb dL_act_12 rfl (lv_at hl 1 rfl) ?_
    refine lv_iconst (pc := 13) (v := iv 1) hx hb dL_act_13 rfl ?_
    refine r_icmp_ne (pc := 14) (a := 4) (b := 1) hx hb dL_act_14 (tgt := 24) (by decide) ⟨by omega, by omega⟩ ⟨by omega, by omega⟩ (fun c_14 => ?_) (fun c_14 => ?_)
    · have c_14_ := c_14
      refine lv_iload_n (pc := 24) hx hb dL_act_24 rfl (lv_at hl 1 rfl) ?_
      refine lv_iconst (pc := 25) (v := iv 2) hx hb dL_act_25 rfl ?_
      refine r_icmp_ne (pc := 26) (a := 4) (b := 2) hx hb dL_act_26 (tgt := 37) (by decide) ⟨by omega, by omega⟩ ⟨by omega, by omega⟩ (fun c_26 => ?_) (fun c_26 => ?_)
      · have c_26_ := c_26
        refine lv_iload_n (pc := 37) hx hb dL_act_37 rfl (lv_at hl 1 rfl) ?_
        refine lv_iconst (pc := 38) (v := iv 3) hx hb dL_act_38 rfl ?_
        refine r_icmp_ne (pc := 39) (a := 4) (b := 3) hx hb dL_act_39 (tgt := 59) (by decide) ⟨by omega, by omega⟩ ⟨by omega, by omega⟩ (fun c_39 => ?_) (fun c_39 => ?_)
        · have c_39_ := c_39
          refine lv_iload_n (pc := 59) hx hb dL_act_59 rfl (lv_at hl 1 rfl) ?_
          refine lv_iconst (pc := 60) (v := iv 4) hx hb dL_act_60 rfl ?_
          refine r_icmp_ne (pc := 61) (a := 4) (b := 4) hx hb dL_act_61 (tgt := 81) (by decide) ⟨by omega, by omega⟩ ⟨by omega, by omega⟩ (fun c_61 => ?_) (fun c_61 => ?_)
          · exact absurd c_61 (by decide)
          · have c_61_ := c_61
            refine lv_aload_n (pc := 64) hx hb dL_act_64 rfl (lv_at hl 0 rfl) ?_
            refine lv_iload_n (pc := 65) hx hb dL_act_65 rfl (lv_at hl 2 rfl) ?_
            refine lv_iload_n (pc := 66) hx hb dL_act_66 rfl (lv_at hl 3 rfl) ?_
            refine c_callV (pc := 67) (y := yX4_areAlikeBySeconds) (As := [.int (iv a), .int (iv b)]) (rest := []) hC hE hP hD hS hl.1 (c_R_areAlikeBySeconds l ε wd hst x n G hH.rd hN hI.2.1 hI.2.2.1 a ra b rb) m_8_24 m_9_0 m_9_1 m_0_2 m_9_2 hob rfl hd_yX4_areAlikeBySeconds rfl ⟨⟨by decide, by decide⟩, by decide, by decide⟩ (Nat.le_of_ble_eq_true rfl) rfl dL_act_67 ?_ ?_
            · intro E9 ce9 q9 w9 H locs hq hP hD hS e1 e2 e3
              obtain ⟨hc9, rfl, hw9⟩ := hq
              rw [hw9] at hP hD
              refine c_catch (pc := 67) (E := nIOE) (pre := []) (xr := ⟨0, 249, 250, 61⟩) (suf := [⟨0, 249, 255, 63⟩, ⟨0, 249, 260, 65⟩]) hC hE (by decide +kernel) (by decide +kernel) rfl (fun _ h => absurd h List.not_mem_nil) (by decide) (by decide) m_4_21 e1 e2 e3 ?_
              refine lv_astore (lv' := [(5, .ref q9), (0, .ref x), (1, .int (iv 4)), (2, .int (iv a)), (3, .int (iv b)), (4, .int (iv c))]) (pc := 250) hx hb dL_act_250 hl (by decide) rfl (fun ls hl => ?_)
              refine lv_bipush (pc := 252) (v := iv (-71)) hx hb dL_act_252 (by decide) ?_
              refine c_iret (pc := 254) hC hQ hP hD hS (by decide) (by decide) dL_act_254 ?_
              exact ⟨rfl, rfl⟩
            · intro v9 w9 H locs hq hP hD hS
              have hc9 := hq.1
              exfalso
              omega
        · exact absurd c_39 (by decide)
      · exact absurd c_26 (by decide)
    · exact absurd c_14 (by decide)
  · exact absurd c_1 (by decide)

abbrev rm_A_change_io : Room := { frames := 10, cells := 8, slots := 1100, locals := 424 }
set_option maxRecDepth 100000 in
set_option maxHeartbeats 4000000 in
theorem A_change_io (l : Launch) (ε : EV) {x : Nat} {n : Nat → Int} {G : Nat → Nat → Int} {wd : va_W} (hst : l.stackTraces = false) (hH : HS ε x n G wd) (a : Int) (b : Int) (c : Int) (ra : rg a) (rb : rg b) (rc : rg c) (h3 : n 3 < 512) (h9 : ¬ ((0 ≤ a ∧ a < n 2) ∧ (0 ≤ b ∧ b < n 1))) : CTW l yL_act cL_act 6 (some .int) [(0, 249, 250, 61), (0, 249, 255, 63), (0, 249, 260, 65)] rm_A_change_io ε [.ref x, .int (iv 5), .int (iv a), .int (iv b), .int (iv c)] (wd) (fun v w9 => v = some (.int (iv (-71))) ∧ w9 = wd) NX := by
  refine CTW.intro (by decide +kernel) (Nat.le_of_ble_eq_true rfl) ?_
  intro p9 e9 s9 m9 a9 bl9 me9 c9 ls Q9 hC hE hP hD hl hQ
  have hx := hC.1
  have hb := hC.2.1
  have hK := hE.K
  have hS : WS ε s9.heap s9.heap [] := va_S.rf
  have hl : lv_has ls 6 [(0, .ref x), (1, .int (iv 5)), (2, .int (iv a)), (3, .int (iv b)), (4, .int (iv c))] := hl
  obtain ⟨H, hH⟩ : ∃ H, H = s9.heap := ⟨_, rfl⟩
  obtain ⟨locs, hlo⟩ : ∃ z : List Loc, z = [] := ⟨_, rfl⟩
  rw [← hH] at hP ⊢
  have hS : WS ε s9.heap H locs := by rw [hH, hlo]; exact hS
  rw [← hlo]
  clear hH hlo
  obtain ⟨fo, hob⟩ := hH.ob
  have hN := hH.inv.NB
  have hI := hH.inv
  refine lv_iload_n (pc := 0) hx hb dL_act_0 rfl (lv_at hl 1 rfl) ?_
  refine r_if_ne (pc := 1) (a := 5) hx hb dL_act_1 (tgt := 12) (by decide) ⟨by omega, by omega⟩ (fun c_1 => ?_) (fun c_1 => ?_)
  · have c_1_ := c_1
    refine lv_iload_n (pc := 12) hx hb dL_act_12 rfl (lv_at hl 1 rfl) ?_
    refine lv_iconst (pc := 13) (v := iv 1) hx hb dL_act_13 rfl ?_
    refine r_icmp_ne (pc := 14) (a := 5) (b := 1) hx hb dL_act_14 (tgt := 24) (by decide) ⟨by omega, by omega⟩ ⟨by omega, by omega⟩ (fun c_14 => ?_) (fun c_14 => ?_)
    · have c_14_ := c_14
      refine lv_iload_n (pc := 24) hx hb dL_act_24 rfl (lv_at hl 1 rfl) ?_
      refine lv_iconst (pc := 25) (v := iv 2) hx hb dL_act_25 rfl ?_
      refine r_icmp_ne (pc := 26) (a := 5) (b := 2) hx hb dL_act_26 (tgt := 37) (by decide) ⟨by omega, by omega⟩ ⟨by omega, by omega⟩ (fun c_26 => ?_) (fun c_26 => ?_)
      · have c_26_ := c_26
        refine lv_iload_n (pc := 37) hx hb dL_act_37 rfl (lv_at hl 1 rfl) ?_
        refine lv_iconst (pc := 38) (v := iv 3) hx hb dL_act_38 rfl ?_
        refine r_icmp_ne (pc := 39) (a := 5) (b := 3) hx hb dL_act_39 (tgt := 59) (by decide) ⟨by omega, by omega⟩ ⟨by omega, by omega⟩ (fun c_39 => ?_) (fun c_39 => ?_)
        · have c_39_ := c_39
          refine lv_iload_n (pc := 59) hx hb dL_act_59 rfl (lv_at hl 1 rfl) ?_
          refine lv_iconst (pc := 60) (v := iv 4) hx hb dL_act_60 rfl ?_
          refine r_icmp_ne (pc := 61) (a := 5) (b := 4) hx hb dL_act_61 (tgt := 81) (by decide) ⟨by omega, by omega⟩ ⟨by omega, by omega⟩ (fun c_61 => ?_) (fun c_61 => ?_)
          · have c_61_ := c_61
            refine lv_iload_n (pc := 81) hx hb dL_act_81 rfl (lv_at hl 1 rfl) ?_
            refine lv_iconst (pc := 82) (v := iv 5) hx hb dL_act_82 rfl ?_
            refine r_icmp_ne (pc := 83) (a := 5) (b := 5) hx hb dL_act_83 (tgt := 97) (by decide) ⟨by omega, by omega⟩ ⟨by omega, by omega⟩ (fun c_83 => ?_) (fun c_83 => ?_)
            · exact absurd c_83 (by decide)
            · have c_83_ := c_83
              refine lv_aload_n (pc := 86) hx hb dL_act_86 rfl (lv_at hl 0 rfl) ?_
              refine lv_iload_n (pc := 87) hx hb dL_act_87 rfl (lv_at hl 2 rfl) ?_
              refine lv_iload_n (pc := 88) hx hb dL_act_88 rfl (lv_at hl 3 rfl) ?_
              refine lv_iload (pc := 89) hx hb dL_act_89 (lv_at hl 4 rfl) ?_
              refine c_callV (pc := 91) (y := yX4_change) (As := [.int (iv a), .int (iv b), .int (iv c)]) (rest := []) hC hE hP hD hS hl.1 (KX_change l ε hst hH a b c ra rb rc h3) m_9_15 m_9_16 m_9_17 m_0_2 m_9_18 hob rfl hd_yX4_change rfl ⟨⟨by decide, by decide⟩, by decide, by decide⟩ (Nat.le_of_ble_eq_true rfl) rfl dL_act_91 ?_ ?_
              · intro E9 ce9 q9 w9 H locs hq hP hD hS e1 e2 e3
                rcases hq with hq | hq
                · obtain ⟨hc9, rfl, hw9⟩ := hq
                  rw [hw9] at hP hD
                  refine c_catch (pc := 91) (E := nIOE) (pre := []) (xr := ⟨0, 249, 250, 61⟩) (suf := [⟨0, 249, 255, 63⟩, ⟨0, 249, 260, 65⟩]) hC hE (by decide +kernel) (by decide +kernel) rfl (fun _ h => absurd h List.not_mem_nil) (by decide) (by decide) m_4_21 e1 e2 e3 ?_
                  refine lv_astore (lv' := [(5, .ref q9), (0, .ref x), (1, .int (iv 5)), (2, .int (iv a)), (3, .int (iv b)), (4, .int (iv c))]) (pc := 250) hx hb dL_act_250 hl (by decide) rfl (fun ls hl => ?_)
                  refine lv_bipush (pc := 252) (v := iv (-71)) hx hb dL_act_252 (by decide) ?_
                  refine c_iret (pc := 254) hC hQ hP hD hS (by decide) (by decide) dL_act_254 ?_
                  exact ⟨rfl, rfl⟩
                · have hc9 := hq.1
                  exfalso
                  omega
              · intro v9 w9 H locs hq hP hD hS
                have hc9 := hq.1
                exfalso
                omega
          · exact absurd c_61 (by decide)
        · exact absurd c_39 (by decide)
      · exact absurd c_26 (by decide)
    · exact absurd c_14 (by decide)
  · exact absurd c_1 (by decide)

abbrev rm_A_change_ia : Room := { frames := 10, cells := 8, slots := 1100, locals := 424 }
set_option maxRecDepth 100000 in
set_option maxHeartbeats 4000000 in
theorem A_change_ia (l : Launch) (ε : EV) {x : Nat} {n : Nat → Int} {G : Nat → Nat → Int} {wd : va_W} (hst : l.stackTraces = false) (hH : HS ε x n G wd) (a : Int) (b : Int) (c : Int) (ra : rg a) (rb : rg b) (rc : rg c) (h3 : n 3 < 512) (h9 : ((0 ≤ a ∧ a < n 2) ∧ (0 ≤ b ∧ b < n 1)) ∧ ¬ (0 ≤ c ∧ c ≤ 59)) : CTW l yL_act cL_act 6 (some .int) [(0, 249, 250, 61), (0, 249, 255, 63), (0, 249, 260, 65)] rm_A_change_ia ε [.ref x, .int (iv 5), .int (iv a), .int (iv b), .int (iv c)] (wd) (fun v w9 => v = some (.int (iv (-72))) ∧ w9 = wd) NX := by
  refine CTW.intro (by decide +kernel) (Nat.le_of_ble_eq_true rfl) ?_
  intro p9 e9 s9 m9 a9 bl9 me9 c9 ls Q9 hC hE hP hD hl hQ
  have hx := hC.1
  have hb := hC.2.1
  have hK := hE.K
  have hS : WS ε s9.heap s9.heap [] := va_S.rf
  have hl : lv_has ls 6 [(0, .ref x), (1, .int (iv 5)), (2, .int (iv a)), (3, .int (iv b)), (4, .int (iv c))] := hl
  obtain ⟨H, hH⟩ : ∃ H, H = s9.heap := ⟨_, rfl⟩
  obtain ⟨locs, hlo⟩ : ∃ z : List Loc, z = [] := ⟨_, rfl⟩
  rw [← hH] at hP ⊢
  have hS : WS ε s9.heap H locs := by rw [hH, hlo]; exact hS
  rw [← hlo]
  clear hH hlo
  obtain ⟨fo, hob⟩ := hH.ob
  have hN := hH.inv.NB
  have hI := hH.inv
  refine lv_iload_n (pc := 0) hx hb dL_act_0 rfl (lv_at hl 1 rfl) ?_
  refine r_if_ne (pc := 1) (a := 5) hx hb dL_act_1 (tgt := 12) (by decide) ⟨by omega, by omega⟩ (fun c_1 => ?_) (fun c_1 => ?_)
  · have c_1_ := c_1
    refine lv_iload_n (pc := 12) hx hb dL_act_12 rfl (lv_at hl 1 rfl) ?_
    refine lv_iconst (pc := 13) (v := iv 1) hx hb dL_act_13 rfl ?_
    refine r_icmp_ne (pc := 14) (a := 5) (b := 1) hx hb dL_act_14 (tgt := 24) (by decide) ⟨by omega, by omega⟩ ⟨by omega, by omega⟩ (fun c_14 => ?_) (fun c_14 => ?_)
    · have c_14_ := c_14
      refine lv_iload_n (pc := 24) hx hb dL_act_24 rfl (lv_at hl 1 rfl) ?_
      refine lv_iconst (pc := 25) (v := iv 2) hx hb dL_act_25 rfl ?_
      refine r_icmp_ne (pc := 26) (a := 5) (b := 2) hx hb dL_act_26 (tgt := 37) (by decide) ⟨by omega, by omega⟩ ⟨by omega, by omega⟩ (fun c_26 => ?_) (fun c_26 => ?_)
      · have c_26_ := c_26
        refine lv_iload_n (pc := 37) hx hb dL_act_37 rfl (lv_at hl 1 rfl) ?_
        refine lv_iconst (pc := 38) (v := iv 3) hx hb dL_act_38 rfl ?_
        refine r_icmp_ne (pc := 39) (a := 5) (b := 3) hx hb dL_act_39 (tgt := 59) (by decide) ⟨by omega, by omega⟩ ⟨by omega, by omega⟩ (fun c_39 => ?_) (fun c_39 => ?_)
        · have c_39_ := c_39
          refine lv_iload_n (pc := 59) hx hb dL_act_59 rfl (lv_at hl 1 rfl) ?_
          refine lv_iconst (pc := 60) (v := iv 4) hx hb dL_act_60 rfl ?_
          refine r_icmp_ne (pc := 61) (a := 5) (b := 4) hx hb dL_act_61 (tgt := 81) (by decide) ⟨by omega, by omega⟩ ⟨by omega, by omega⟩ (fun c_61 => ?_) (fun c_61 => ?_)
          · have c_61_ := c_61
            refine lv_iload_n (pc := 81) hx hb dL_act_81 rfl (lv_at hl 1 rfl) ?_
            refine lv_iconst (pc := 82) (v := iv 5) hx hb dL_act_82 rfl ?_
            refine r_icmp_ne (pc := 83) (a := 5) (b := 5) hx hb dL_act_83 (tgt := 97) (by decide) ⟨by omega, by omega⟩ ⟨by omega, by omega⟩ (fun c_83 => ?_) (fun c_83 => ?_)
            · exact absurd c_83 (by decide)
            · have c_83_ := c_83
              refine lv_aload_n (pc := 86) hx hb dL_act_86 rfl (lv_at hl 0 rfl) ?_
              refine lv_iload_n (pc := 87) hx hb dL_act_87 rfl (lv_at hl 2 rfl) ?_
              refine lv_iload_n (pc := 88) hx hb dL_act_88 rfl (lv_at hl 3 rfl) ?_
              refine lv_iload (pc := 89) hx hb dL_act_89 (lv_at hl 4 rfl) ?_
              refine c_callV (pc := 91) (y := yX4_change) (As := [.int (iv a), .int (iv b), .int (iv c)]) (rest := []) hC hE hP hD hS hl.1 (KX_change l ε hst hH a b c ra rb rc h3) m_9_15 m_9_16 m_9_17 m_0_2 m_9_18 hob rfl hd_yX4_change rfl ⟨⟨by decide, by decide⟩, by decide, by decide⟩ (Nat.le_of_ble_eq_true rfl) rfl dL_act_91 ?_ ?_
              · intro E9 ce9 q9 w9 H locs hq hP hD hS e1 e2 e3
                rcases hq with hq | hq
                · have hc9 := hq.1
                  exfalso
                  omega
                · obtain ⟨hc9, rfl, hw9⟩ := hq
                  rw [hw9] at hP hD
                  refine c_catch (pc := 91) (E := nIAE) (pre := [⟨0, 249, 250, 61⟩]) (xr := ⟨0, 249, 255, 63⟩) (suf := [⟨0, 249, 260, 65⟩]) hC hE (by decide +kernel) (by decide +kernel) rfl (List.forall_mem_cons.mpr ⟨⟨by decide, nIOE, by decide +kernel, by decide +kernel, m_4_21⟩, fun _ h => absurd h List.not_mem_nil⟩) (by decide) (by decide) m_4_22 e1 e2 e3 ?_
                  refine lv_astore (lv' := [(5, .ref q9), (0, .ref x), (1, .int (iv 5)), (2, .int (iv a)), (3, .int (iv b)), (4, .int (iv c))]) (pc := 255) hx hb dL_act_255 hl (by decide) rfl (fun ls hl => ?_)
                  refine lv_bipush (pc := 257) (v := iv (-72)) hx hb dL_act_257 (by decide) ?_
                  refine c_iret (pc := 259) hC hQ hP hD hS (by decide) (by decide) dL_act_259 ?_
                  exact ⟨rfl, rfl⟩
              · intro v9 w9 H locs hq hP hD hS
                have hc9 := hq.1
                exfalso
                omega
          · exact absurd c_61 (by decide)
        · exact absurd c_39 (by decide)
      · exact absurd c_26 (by decide)
    · exact absurd c_14 (by decide)
  · exact absurd c_1 (by decide)

abbrev rm_A_fail1_io : Room := { frames := 10, cells := 8, slots := 1100, locals := 423 }
set_option maxRecDepth 100000 in
set_option maxHeartbeats 4000000 in
theorem A_fail1_io (l : Launch) (ε : EV) {x : Nat} {n : Nat → Int} {G : Nat → Nat → Int} {wd : va_W} (hst : l.stackTraces = false) (hH : HS ε x n G wd) (a : Int) (c : Int) (ra : rg a) (rc : rg c) (h3 : n 3 < 512) (h9 : ¬ (0 ≤ a ∧ a < n 2)) : CTW l yL_act cL_act 6 (some .int) [(0, 249, 250, 61), (0, 249, 255, 63), (0, 249, 260, 65)] rm_A_fail1_io ε [.ref x, .int (iv 6), .int (iv a), .int (iv 1), .int (iv c)] (wd) (fun v w9 => v = some (.int (iv (-71))) ∧ w9 = wd) NX := by
  refine CTW.intro (by decide +kernel) (Nat.le_of_ble_eq_true rfl) ?_
  intro p9 e9 s9 m9 a9 bl9 me9 c9 ls Q9 hC hE hP hD hl hQ
  have hx := hC.1
  have hb := hC.2.1
  have hK := hE.K
  have hS : WS ε s9.heap s9.heap [] := va_S.rf
  have hl : lv_has ls 6 [(0, .ref x), (1, .int (iv 6)), (2, .int (iv a)), (3, .int (iv 1)), (4, .int (iv c))] := hl
  obtain ⟨H, hH⟩ : ∃ H, H = s9.heap := ⟨_, rfl⟩
  obtain ⟨locs, hlo⟩ : ∃ z : List Loc, z = [] := ⟨_, rfl⟩
  rw [← hH] at hP ⊢
  have hS : WS ε s9.heap H locs := by rw [hH, hlo]; exact hS
  rw [← hlo]
  clear hH hlo
  obtain ⟨fo, hob⟩ := hH.ob
  have hN := hH.inv.NB
  have hI := hH.inv
  refine lv_iload_n (pc := 0) hx hb dL_act_0 rfl (lv_at hl 1 rfl) ?_
  refine r_if_ne (pc := 1) (a := 6) hx hb dL_act_1 (tgt := 12) (by decide) ⟨by omega, by omega⟩ (fun c_1 => ?_) (fun c_1 => ?_)
  · have c_1_ := c_1
    refine lv_iload_n (pc := 12) hx hb dL_act_12 rfl (lv_at hl 1 rfl) ?_
    refine lv_iconst (pc := 13) (v := iv 1) hx hb dL_act_13 rfl ?_
    refine r_icmp_ne (pc := 14) (a := 6) (b := 1) hx hb dL_act_14 (tgt := 24) (by decide) ⟨by omega, by omega⟩ ⟨by omega, by omega⟩ (fun c_14 => ?_) (fun c_14 => ?_)
    · have c_14_ := c_14
      refine lv_iload_n (pc := 24) hx hb dL_act_24 rfl (lv_at hl 1 rfl) ?_
      refine lv_iconst (pc := 25) (v := iv 2) hx hb dL_act_25 rfl ?_
      refine r_icmp_ne (pc := 26) (a := 6) (b := 2) hx hb dL_act_26 (tgt := 37) (by decide) ⟨by omega, by omega⟩ ⟨by omega, by omega⟩ (fun c_26 => ?_) (fun c_26 => ?_)
      · have c_26_ := c_26
        refine lv_iload_n (pc := 37) hx hb dL_act_37 rfl (lv_at hl 1 rfl) ?_
        refine lv_iconst (pc := 38) (v := iv 3) hx hb dL_act_38 rfl ?_
        refine r_icmp_ne (pc := 39) (a := 6) (b := 3) hx hb dL_act_39 (tgt := 59) (by decide) ⟨by omega, by omega⟩ ⟨by omega, by omega⟩ (fun c_39 => ?_) (fun c_39 => ?_)
        · have c_39_ := c_39
          refine lv_iload_n (pc := 59) hx hb dL_act_59 rfl (lv_at hl 1 rfl) ?_
          refine lv_iconst (pc := 60) (v := iv 4) hx hb dL_act_60 rfl ?_
          refine r_icmp_ne (pc := 61) (a := 6) (b := 4) hx hb dL_act_61 (tgt := 81) (by decide) ⟨by omega, by omega⟩ ⟨by omega, by omega⟩ (fun c_61 => ?_) (fun c_61 => ?_)
          · have c_61_ := c_61
            refine lv_iload_n (pc := 81) hx hb dL_act_81 rfl (lv_at hl 1 rfl) ?_
            refine lv_iconst (pc := 82) (v := iv 5) hx hb dL_act_82 rfl ?_
            refine r_icmp_ne (pc := 83) (a := 6) (b := 5) hx hb dL_act_83 (tgt := 97) (by decide) ⟨by omega, by omega⟩ ⟨by omega, by omega⟩ (fun c_83 => ?_) (fun c_83 => ?_)
            · have c_83_ := c_83
              refine lv_iload_n (pc := 97) hx hb dL_act_97 rfl (lv_at hl 1 rfl) ?_
              refine lv_bipush (pc := 98) (v := iv 6) hx hb dL_act_98 (by decide) ?_
              refine r_icmp_ne (pc := 100) (a := 6) (b := 6) hx hb dL_act_100 (tgt := 121) (by decide) ⟨by omega, by omega⟩ ⟨by omega, by omega⟩ (fun c_100 => ?_) (fun c_100 => ?_)
              · exact absurd c_100 (by decide)
              · have c_100_ := c_100
                refine lv_aload_n (pc := 103) hx hb dL_act_103 rfl (lv_at hl 0 rfl) ?_
                refine lv_iload_n (pc := 104) hx hb dL_act_104 rfl (lv_at hl 2 rfl) ?_
                refine lv_iload_n (pc := 105) hx hb dL_act_105 rfl (lv_at hl 3 rfl) ?_
                refine lv_iconst (pc := 106) (v := iv 1) hx hb dL_act_106 rfl ?_
                refine r_icmp_ne (pc := 107) (a := 1) (b := 1) hx hb dL_act_107 (tgt := 114) (by decide) ⟨by omega, by omega⟩ ⟨by omega, by omega⟩ (fun c_107 => ?_) (fun c_107 => ?_)
                · exact absurd c_107 (by decide)
                · have c_107_ := c_107
                  refine lv_iconst (pc := 110) (v := iv 1) hx hb dL_act_110 rfl ?_
                  refine lv_goto (pc := 111) (tgt := 115) hx hb dL_act_111 (by decide) ?_
                  refine c_callV (pc := 115) (y := yX4_fail) (As := [.int (iv a), .int (iv 1)]) (rest := []) hC hE hP hD hS hl.1 (KX_fail l ε hst hH a 1 ra (by decide) (Or.inr rfl) h3) m_10_17 m_10_18 m_10_19 m_0_2 m_10_20 hob rfl hd_yX4_fail rfl ⟨⟨by decide, by decide⟩, by decide, by decide⟩ (Nat.le_of_ble_eq_true rfl) rfl dL_act_115 ?_ ?_
                  · intro E9 ce9 q9 w9 H locs hq hP hD hS e1 e2 e3
                    rcases hq with hq | hq
                    · obtain ⟨hc9, rfl, hw9⟩ := hq
                      rw [hw9] at hP hD
                      refine c_catch (pc := 115) (E := nIOE) (pre := []) (xr := ⟨0, 249, 250, 61⟩) (suf := [⟨0, 249, 255, 63⟩, ⟨0, 249, 260, 65⟩]) hC hE (by decide +kernel) (by decide +kernel) rfl (fun _ h => absurd h List.not_mem_nil) (by decide) (by decide) m_4_21 e1 e2 e3 ?_
                      refine lv_astore (lv' := [(5, .ref q9), (0, .ref x), (1, .int (iv 6)), (2, .int (iv a)), (3, .int (iv 1)), (4, .int (iv c))]) (pc := 250) hx hb dL_act_250 hl (by decide) rfl (fun ls hl => ?_)
                      refine lv_bipush (pc := 252) (v := iv (-71)) hx hb dL_act_252 (by decide) ?_
                      refine c_iret (pc := 254) hC hQ hP hD hS (by decide) (by decide) dL_act_254 ?_
                      exact ⟨rfl, rfl⟩
                    · have hc9 := hq.1
                      exfalso
                      omega
                  · intro v9 w9 H locs hq hP hD hS
                    have hc9 := hq.1
                    exfalso
                    omega
            · exact absurd c_83 (by decide)
          · exact absurd c_61 (by decide)
        · exact absurd c_39 (by decide)
      · exact absurd c_26 (by decide)
    · exact absurd c_14 (by decide)
  · exact absurd c_1 (by decide)

abbrev rm_A_fail1_is : Room := { frames := 10, cells := 8, slots := 1100, locals := 423 }
set_option maxRecDepth 100000 in
set_option maxHeartbeats 4000000 in
theorem A_fail1_is (l : Launch) (ε : EV) {x : Nat} {n : Nat → Int} {G : Nat → Nat → Int} {wd : va_W} (hst : l.stackTraces = false) (hH : HS ε x n G wd) (a : Int) (c : Int) (ra : rg a) (rc : rg c) (h3 : n 3 < 512) (h9 : (0 ≤ a ∧ a < n 2) ∧ G 10 a.toNat = 1) : CTW l yL_act cL_act 6 (some .int) [(0, 249, 250, 61), (0, 249, 255, 63), (0, 249, 260, 65)] rm_A_fail1_is ε [.ref x, .int (iv 6), .int (iv a), .int (iv 1), .int (iv c)] (wd) (fun v w9 => v = some (.int (iv (-73))) ∧ w9 = wd) NX := by
  refine CTW.intro (by decide +kernel) (Nat.le_of_ble_eq_true rfl) ?_
  intro p9 e9 s9 m9 a9 bl9 me9 c9 ls Q9 hC hE hP hD hl hQ
  have hx := hC.1
  have hb := hC.2.1
  have hK := hE.K
  have hS : WS ε s9.heap s9.heap [] := va_S.rf
  have hl : lv_has ls 6 [(0, .ref x), (1, .int (iv 6)), (2, .int (iv a)), (3, .int (iv 1)), (4, .int (iv c))] := hl
  obtain ⟨H, hH⟩ : ∃ H, H = s9.heap := ⟨_, rfl⟩
  obtain ⟨locs, hlo⟩ : ∃ z : List Loc, z = [] := ⟨_, rfl⟩
  rw [← hH] at hP ⊢
  have hS : WS ε s9.heap H locs := by rw [hH, hlo]; exact hS
  rw [← hlo]
  clear hH hlo
  obtain ⟨fo, hob⟩ := hH.ob
  have hN := hH.inv.NB
  have hI := hH.inv
  refine lv_iload_n (pc := 0) hx hb dL_act_0 rfl (lv_at hl 1 rfl) ?_
  refine r_if_ne (pc := 1) (a := 6) hx hb dL_act_1 (tgt := 12) (by decide) ⟨by omega, by omega⟩ (fun c_1 => ?_) (fun c_1 => ?_)
  · have c_1_ := c_1
    refine lv_iload_n (pc := 12) hx hb dL_act_12 rfl (lv_at hl 1 rfl) ?_
    refine lv_iconst (pc := 13) (v := iv 1) hx hb dL_act_13 rfl ?_
    refine r_icmp_ne (pc := 14) (a := 6) (b := 1) hx hb dL_act_14 (tgt := 24) (by decide) ⟨by omega, by omega⟩ ⟨by omega, by omega⟩ (fun c_14 => ?_) (fun c_14 => ?_)
    · have c_14_ := c_14
      refine lv_iload_n (pc := 24) hx hb dL_act_24 rfl (lv_at hl 1 rfl) ?_
      refine lv_iconst (pc := 25) (v := iv 2) hx hb dL_act_25 rfl ?_
      refine r_icmp_ne (pc := 26) (a := 6) (b := 2) hx hb dL_act_26 (tgt := 37) (by decide) ⟨by omega, by omega⟩ ⟨by omega, by omega⟩ (fun c_26 => ?_) (fun c_26 => ?_)
      · have c_26_ := c_26
        refine lv_iload_n (pc := 37) hx hb dL_act_37 rfl (lv_at hl 1 rfl) ?_
        refine lv_iconst (pc := 38) (v := iv 3) hx hb dL_act_38 rfl ?_
        refine r_icmp_ne (pc := 39) (a := 6) (b := 3) hx hb dL_act_39 (tgt := 59) (by decide) ⟨by omega, by omega⟩ ⟨by omega, by omega⟩ (fun c_39 => ?_) (fun c_39 => ?_)
        · have c_39_ := c_39
          refine lv_iload_n (pc := 59) hx hb dL_act_59 rfl (lv_at hl 1 rfl) ?_
          refine lv_iconst (pc := 60) (v := iv 4) hx hb dL_act_60 rfl ?_
          refine r_icmp_ne (pc := 61) (a := 6) (b := 4) hx hb dL_act_61 (tgt := 81) (by decide) ⟨by omega, by omega⟩ ⟨by omega, by omega⟩ (fun c_61 => ?_) (fun c_61 => ?_)
          · have c_61_ := c_61
            refine lv_iload_n (pc := 81) hx hb dL_act_81 rfl (lv_at hl 1 rfl) ?_
            refine lv_iconst (pc := 82) (v := iv 5) hx hb dL_act_82 rfl ?_
            refine r_icmp_ne (pc := 83) (a := 6) (b := 5) hx hb dL_act_83 (tgt := 97) (by decide) ⟨by omega, by omega⟩ ⟨by omega, by omega⟩ (fun c_83 => ?_) (fun c_83 => ?_)
            · have c_83_ := c_83
              refine lv_iload_n (pc := 97) hx hb dL_act_97 rfl (lv_at hl 1 rfl) ?_
              refine lv_bipush (pc := 98) (v := iv 6) hx hb dL_act_98 (by decide) ?_
              refine r_icmp_ne (pc := 100) (a := 6) (b := 6) hx hb dL_act_100 (tgt := 121) (by decide) ⟨by omega, by omega⟩ ⟨by omega, by omega⟩ (fun c_100 => ?_) (fun c_100 => ?_)
              · exact absurd c_100 (by decide)
              · have c_100_ := c_100
                refine lv_aload_n (pc := 103) hx hb dL_act_103 rfl (lv_at hl 0 rfl) ?_
                refine lv_iload_n (pc := 104) hx hb dL_act_104 rfl (lv_at hl 2 rfl) ?_
                refine lv_iload_n (pc := 105) hx hb dL_act_105 rfl (lv_at hl 3 rfl) ?_
                refine lv_iconst (pc := 106) (v := iv 1) hx hb dL_act_106 rfl ?_
                refine r_icmp_ne (pc := 107) (a := 1) (b := 1) hx hb dL_act_107 (tgt := 114) (by decide) ⟨by omega, by omega⟩ ⟨by omega, by omega⟩ (fun c_107 => ?_) (fun c_107 => ?_)
                · exact absurd c_107 (by decide)
                · have c_107_ := c_107
                  refine lv_iconst (pc := 110) (v := iv 1) hx hb dL_act_110 rfl ?_
                  refine lv_goto (pc := 111) (tgt := 115) hx hb dL_act_111 (by decide) ?_
                  refine c_callV (pc := 115) (y := yX4_fail) (As := [.int (iv a), .int (iv 1)]) (rest := []) hC hE hP hD hS hl.1 (KX_fail l ε hst hH a 1 ra (by decide) (Or.inr rfl) h3) m_10_17 m_10_18 m_10_19 m_0_2 m_10_20 hob rfl hd_yX4_fail rfl ⟨⟨by decide, by decide⟩, by decide, by decide⟩ (Nat.le_of_ble_eq_true rfl) rfl dL_act_115 ?_ ?_
                  · intro E9 ce9 q9 w9 H locs hq hP hD hS e1 e2 e3
                    rcases hq with hq | hq
                    · have hc9 := hq.1
                      exfalso
                      omega
                    · obtain ⟨hc9, rfl, hw9⟩ := hq
                      rw [hw9] at hP hD
                      refine c_catch (pc := 115) (E := nISE) (pre := [⟨0, 249, 250, 61⟩, ⟨0, 249, 255, 63⟩]) (xr := ⟨0, 249, 260, 65⟩) (suf := []) hC hE (by decide +kernel) (by decide +kernel) rfl (List.forall_mem_cons.mpr ⟨⟨by decide, nIOE, by decide +kernel, by decide +kernel, m_4_21⟩, List.forall_mem_cons.mpr ⟨⟨by decide, nIAE, by decide +kernel, by decide +kernel, m_4_22⟩, fun _ h => absurd h List.not_mem_nil⟩⟩) (by decide) (by decide) m_4_23 e1 e2 e3 ?_
                      refine lv_astore (lv' := [(5, .ref q9), (0, .ref x), (1, .int (iv 6)), (2, .int (iv a)), (3, .int (iv 1)), (4, .int (iv c))]) (pc := 260) hx hb dL_act_260 hl (by decide) rfl (fun ls hl => ?_)
                      refine lv_bipush (pc := 262) (v := iv (-73)) hx hb dL_act_262 (by decide) ?_
                      refine c_iret (pc := 264) hC hQ hP hD hS (by decide) (by decide) dL_act_264 ?_
                      exact ⟨rfl, rfl⟩
                  · intro v9 w9 H locs hq hP hD hS
                    have hc9 := hq.1
                    exfalso
                    omega
            · exact absurd c_83 (by decide)
          · exact absurd c_61 (by decide)
        · exact absurd c_39 (by decide)
      · exact absurd c_26 (by decide)
    · exact absurd c_14 (by decide)
  · exact absurd c_1 (by decide)

abbrev rm_A_fail0_is : Room := { frames := 10, cells := 8, slots := 1100, locals := 423 }
set_option maxRecDepth 100000 in
set_option maxHeartbeats 4000000 in
theorem A_fail0_is (l : Launch) (ε : EV) {x : Nat} {n : Nat → Int} {G : Nat → Nat → Int} {wd : va_W} (hst : l.stackTraces = false) (hH : HS ε x n G wd) (a : Int) (c : Int) (ra : rg a) (rc : rg c) (h3 : n 3 < 512) (h9 : (0 ≤ a ∧ a < n 2) ∧ G 10 a.toNat = 0) : CTW l yL_act cL_act 6 (some .int) [(0, 249, 250, 61), (0, 249, 255, 63), (0, 249, 260, 65)] rm_A_fail0_is ε [.ref x, .int (iv 6), .int (iv a), .int (iv 0), .int (iv c)] (wd) (fun v w9 => v = some (.int (iv (-73))) ∧ w9 = wd) NX := by
  refine CTW.intro (by decide +kernel) (Nat.le_of_ble_eq_true rfl) ?_
  intro p9 e9 s9 m9 a9 bl9 me9 c9 ls Q9 hC hE hP hD hl hQ
  have hx := hC.1
  have hb := hC.2.1
  have hK := hE.K
  have hS : WS ε s9.heap s9.heap [] := va_S.rf
  have hl : lv_has ls 6 [(0, .ref x), (1, .int (iv 6)), (2, .int (iv a)), (3, .int (iv 0)), (4, .int (iv c))] := hl
  obtain ⟨H, hH⟩ : ∃ H, H = s9.heap := ⟨_, rfl⟩
  obtain ⟨locs, hlo⟩ : ∃ z : List Loc, z = [] := ⟨_, rfl⟩
  rw [← hH] at hP ⊢
  have hS : WS ε s9.heap H locs := by rw [hH, hlo]; exact hS
  rw [← hlo]
  clear hH hlo
  obtain ⟨fo, hob⟩ := hH.ob
  have hN := hH.inv.NB
  have hI := hH.inv
  refine lv_iload_n (pc := 0) hx hb dL_act_0 rfl (lv_at hl 1 rfl) ?_
  refine r_if_ne (pc := 1) (a := 6) hx hb dL_act_1 (tgt := 12) (by decide) ⟨by omega, by omega⟩ (fun c_1 => ?_) (fun c_1 => ?_)
  · have c_1_ := c_1
    refine lv_iload_n (pc := 12) hx hb dL_act_12 rfl (lv_at hl 1 rfl) ?_
    refine lv_iconst (pc := 13) (v := iv 1) hx hb dL_act_13 rfl ?_
    refine r_icmp_ne (pc := 14) (a := 6) (b := 1) hx hb dL_act_14 (tgt := 24) (by decide) ⟨by omega, by omega⟩ ⟨by omega, by omega⟩ (fun c_14 => ?_) (fun c_14 => ?_)
    · have c_14_ := c_14
      refine lv_iload_n (pc := 24) hx hb dL_act_24 rfl (lv_at hl 1 rfl) ?_
      refine lv_iconst (pc := 25) (v := iv 2) hx hb dL_act_25 rfl ?_
      refine r_icmp_ne (pc := 26) (a := 6) (b := 2) hx hb dL_act_26 (tgt := 37) (by decide) ⟨by omega, by omega⟩ ⟨by omega, by omega⟩ (fun c_26 => ?_) (fun c_26 => ?_)
      · have c_26_ := c_26
        refine lv_iload_n (pc := 37) hx hb dL_act_37 rfl (lv_at hl 1 rfl) ?_
        refine lv_iconst (pc := 38) (v := iv 3) hx hb dL_act_38 rfl ?_
        refine r_icmp_ne (pc := 39) (a := 6) (b := 3) hx hb dL_act_39 (tgt := 59) (by decide) ⟨by omega, by omega⟩ ⟨by omega, by omega⟩ (fun c_39 => ?_) (fun c_39 => ?_)
        · have c_39_ := c_39
          refine lv_iload_n (pc := 59) hx hb dL_act_59 rfl (lv_at hl 1 rfl) ?_
          refine lv_iconst (pc := 60) (v := iv 4) hx hb dL_act_60 rfl ?_
          refine r_icmp_ne (pc := 61) (a := 6) (b := 4) hx hb dL_act_61 (tgt := 81) (by decide) ⟨by omega, by omega⟩ ⟨by omega, by omega⟩ (fun c_61 => ?_) (fun c_61 => ?_)
          · have c_61_ := c_61
            refine lv_iload_n (pc := 81) hx hb dL_act_81 rfl (lv_at hl 1 rfl) ?_
            refine lv_iconst (pc := 82) (v := iv 5) hx hb dL_act_82 rfl ?_
            refine r_icmp_ne (pc := 83) (a := 6) (b := 5) hx hb dL_act_83 (tgt := 97) (by decide) ⟨by omega, by omega⟩ ⟨by omega, by omega⟩ (fun c_83 => ?_) (fun c_83 => ?_)
            · have c_83_ := c_83
              refine lv_iload_n (pc := 97) hx hb dL_act_97 rfl (lv_at hl 1 rfl) ?_
              refine lv_bipush (pc := 98) (v := iv 6) hx hb dL_act_98 (by decide) ?_
              refine r_icmp_ne (pc := 100) (a := 6) (b := 6) hx hb dL_act_100 (tgt := 121) (by decide) ⟨by omega, by omega⟩ ⟨by omega, by omega⟩ (fun c_100 => ?_) (fun c_100 => ?_)
              · exact absurd c_100 (by decide)
              · have c_100_ := c_100
                refine lv_aload_n (pc := 103) hx hb dL_act_103 rfl (lv_at hl 0 rfl) ?_
                refine lv_iload_n (pc := 104) hx hb dL_act_104 rfl (lv_at hl 2 rfl) ?_
                refine lv_iload_n (pc := 105) hx hb dL_act_105 rfl (lv_at hl 3 rfl) ?_
                refine lv_iconst (pc := 106) (v := iv 1) hx hb dL_act_106 rfl ?_
                refine r_icmp_ne (pc := 107) (a := 0) (b := 1) hx hb dL_act_107 (tgt := 114) (by decide) ⟨by omega, by omega⟩ ⟨by omega, by omega⟩ (fun c_107 => ?_) (fun c_107 => ?_)
                · have c_107_ := c_107
                  refine lv_iconst (pc := 114) (v := iv 0) hx hb dL_act_114 rfl ?_
                  refine c_callV (pc := 115) (y := yX4_fail) (As := [.int (iv a), .int (iv 0)]) (rest := []) hC hE hP hD hS hl.1 (KX_fail l ε hst hH a 0 ra (by decide) (Or.inl rfl) h3) m_10_17 m_10_18 m_10_19 m_0_2 m_10_20 hob rfl hd_yX4_fail rfl ⟨⟨by decide, by decide⟩, by decide, by decide⟩ (Nat.le_of_ble_eq_true rfl) rfl dL_act_115 ?_ ?_
                  · intro E9 ce9 q9 w9 H locs hq hP hD hS e1 e2 e3
                    rcases hq with hq | hq
                    · have hc9 := hq.1
                      exfalso
                      omega
                    · obtain ⟨hc9, rfl, hw9⟩ := hq
                      rw [hw9] at hP hD
                      refine c_catch (pc := 115) (E := nISE) (pre := [⟨0, 249, 250, 61⟩, ⟨0, 249, 255, 63⟩]) (xr := ⟨0, 249, 260, 65⟩) (suf := []) hC hE (by decide +kernel) (by decide +kernel) rfl (List.forall_mem_cons.mpr ⟨⟨by decide, nIOE, by decide +kernel, by decide +kernel, m_4_21⟩, List.forall_mem_cons.mpr ⟨⟨by decide, nIAE, by decide +kernel, by decide +kernel, m_4_22⟩, fun _ h => absurd h List.not_mem_nil⟩⟩) (by decide) (by decide) m_4_23 e1 e2 e3 ?_
                      refine lv_astore (lv' := [(5, .ref q9), (0, .ref x), (1, .int (iv 6)), (2, .int (iv a)), (3, .int (iv 0)), (4, .int (iv c))]) (pc := 260) hx hb dL_act_260 hl (by decide) rfl (fun ls hl => ?_)
                      refine lv_bipush (pc := 262) (v := iv (-73)) hx hb dL_act_262 (by decide) ?_
                      refine c_iret (pc := 264) hC hQ hP hD hS (by decide) (by decide) dL_act_264 ?_
                      exact ⟨rfl, rfl⟩
                  · intro v9 w9 H locs hq hP hD hS
                    have hc9 := hq.1
                    exfalso
                    omega
                · exact absurd c_107 (by decide)
            · exact absurd c_83 (by decide)
          · exact absurd c_61 (by decide)
        · exact absurd c_39 (by decide)
      · exact absurd c_26 (by decide)
    · exact absurd c_14 (by decide)
  · exact absurd c_1 (by decide)

abbrev rm_A_shines_io : Room := { frames := 9, cells := 2, slots := 12, locals := 203 }
set_option maxRecDepth 100000 in
set_option maxHeartbeats 4000000 in
theorem A_shines_io (l : Launch) (ε : EV) {x : Nat} {n : Nat → Int} {G : Nat → Nat → Int} {wd : va_W} (hst : l.stackTraces = false) (hH : HS ε x n G wd) (a : Int) (b : Int) (c : Int) (ra : rg a) (rb : rg b) (rc : rg c)  (h9 : ¬ (0 ≤ a ∧ a < n 2)) : CTW l yL_act cL_act 6 (some .int) [(0, 249, 250, 61), (0, 249, 255, 63), (0, 249, 260, 65)] rm_A_shines_io ε [.ref x, .int (iv 7), .int (iv a), .int (iv b), .int (iv c)] (wd) (fun v w9 => v = some (.int (iv (-71))) ∧ w9 = wd) NX := by
  refine CTW.intro (by decide +kernel) (Nat.le_of_ble_eq_true rfl) ?_
  intro p9 e9 s9 m9 a9 bl9 me9 c9 ls Q9 hC hE hP hD hl hQ
  have hx := hC.1
  have hb := hC.2.1
  have hK := hE.K
  have hS : WS ε s9.heap s9.heap [] := va_S.rf
  have hl : lv_has ls 6 [(0, .ref x), (1, .int (iv 7)), (2, .int (iv a)), (3, .int (iv b)), (4, .int (iv c))] := hl
  obtain ⟨H, hH⟩ : ∃ H, H = s9.heap := ⟨_, rfl⟩
  obtain ⟨locs, hlo⟩ : ∃ z : List Loc, z = [] := ⟨_, rfl⟩
  rw [← hH] at hP ⊢
  have hS : WS ε s9.heap H locs := by rw [hH, hlo]; exact hS
  rw [← hlo]
  clear hH hlo
  obtain ⟨fo, hob⟩ := hH.ob
  have hN := hH.inv.NB
  have hI := hH.inv
  refine lv_iload_n (pc := 0) hx hb dL_act_0 rfl (lv_at hl 1 rfl) ?_
  refine r_if_ne (pc := 1) (a := 7) hx hb dL_act_1 (tgt := 12) (by decide) ⟨by omega, by omega⟩ (fun c_1 => ?_) (fun c_1 => ?_)
  · have c_1_ := c_1
    refine lv_iload_n (pc := 12) hx hb dL_act_12 rfl (lv_at hl 1 rfl) ?_
    refine lv_iconst (pc := 13) (v := iv 1) hx hb dL_act_13 rfl ?_
    refine r_icmp_ne (pc := 14) (a := 7) (b := 1) hx hb dL_act_14 (tgt := 24) (by decide) ⟨by omega, by omega⟩ ⟨by omega, by omega⟩ (fun c_14 => ?_) (fun c_14 => ?_)
    · have c_14_ := c_14
      refine lv_iload_n (pc := 24) hx hb dL_act_24 rfl (lv_at hl 1 rfl) ?_
      refine lv_iconst (pc := 25) (v := iv 2) hx hb dL_act_25 rfl ?_
      refine r_icmp_ne (pc := 26) (a := 7) (b := 2) hx hb dL_act_26 (tgt := 37) (by decide) ⟨by omega, by omega⟩ ⟨by omega, by omega⟩ (fun c_26 => ?_) (fun c_26 => ?_)
      · have c_26_ := c_26
        refine lv_iload_n (pc := 37) hx hb dL_act_37 rfl (lv_at hl 1 rfl) ?_
        refine lv_iconst (pc := 38) (v := iv 3) hx hb dL_act_38 rfl ?_
        refine r_icmp_ne (pc := 39) (a := 7) (b := 3) hx hb dL_act_39 (tgt := 59) (by decide) ⟨by omega, by omega⟩ ⟨by omega, by omega⟩ (fun c_39 => ?_) (fun c_39 => ?_)
        · have c_39_ := c_39
          refine lv_iload_n (pc := 59) hx hb dL_act_59 rfl (lv_at hl 1 rfl) ?_
          refine lv_iconst (pc := 60) (v := iv 4) hx hb dL_act_60 rfl ?_
          refine r_icmp_ne (pc := 61) (a := 7) (b := 4) hx hb dL_act_61 (tgt := 81) (by decide) ⟨by omega, by omega⟩ ⟨by omega, by omega⟩ (fun c_61 => ?_) (fun c_61 => ?_)
          · have c_61_ := c_61
            refine lv_iload_n (pc := 81) hx hb dL_act_81 rfl (lv_at hl 1 rfl) ?_
            refine lv_iconst (pc := 82) (v := iv 5) hx hb dL_act_82 rfl ?_
            refine r_icmp_ne (pc := 83) (a := 7) (b := 5) hx hb dL_act_83 (tgt := 97) (by decide) ⟨by omega, by omega⟩ ⟨by omega, by omega⟩ (fun c_83 => ?_) (fun c_83 => ?_)
            · have c_83_ := c_83
              refine lv_iload_n (pc := 97) hx hb dL_act_97 rfl (lv_at hl 1 rfl) ?_
              refine lv_bipush (pc := 98) (v := iv 6) hx hb dL_act_98 (by decide) ?_
              refine r_icmp_ne (pc := 100) (a := 7) (b := 6) hx hb dL_act_100 (tgt := 121) (by decide) ⟨by omega, by omega⟩ ⟨by omega, by omega⟩ (fun c_100 => ?_) (fun c_100 => ?_)
              · have c_100_ := c_100
                refine lv_iload_n (pc := 121) hx hb dL_act_121 rfl (lv_at hl 1 rfl) ?_
                refine lv_bipush (pc := 122) (v := iv 7) hx hb dL_act_122 (by decide) ?_
                refine r_icmp_ne (pc := 124) (a := 7) (b := 7) hx hb dL_act_124 (tgt := 144) (by decide) ⟨by omega, by omega⟩ ⟨by omega, by omega⟩ (fun c_124 => ?_) (fun c_124 => ?_)
                · exact absurd c_124 (by decide)
                · have c_124_ := c_124
                  refine lv_aload_n (pc := 127) hx hb dL_act_127 rfl (lv_at hl 0 rfl) ?_
                  refine lv_iload_n (pc := 128) hx hb dL_act_128 rfl (lv_at hl 2 rfl) ?_
                  refine lv_iload_n (pc := 129) hx hb dL_act_129 rfl (lv_at hl 3 rfl) ?_
                  refine c_callV (pc := 130) (y := yX4_shines) (As := [.int (iv a), .int (iv b)]) (rest := []) hC hE hP hD hS hl.1 (c_R_shines l ε wd hst x n G hH.rd hN hI.2.1 hI.2.2.1 a ra b rb) m_10_21 m_10_22 m_10_23 m_0_2 m_10_24 hob rfl hd_yX4_shines rfl ⟨⟨by decide, by decide⟩, by decide, by decide⟩ (Nat.le_of_ble_eq_true rfl) rfl dL_act_130 ?_ ?_
                  · intro E9 ce9 q9 w9 H locs hq hP hD hS e1 e2 e3
                    rcases hq with hq | hq
                    · obtain ⟨hc9, rfl, hw9⟩ := hq
                      rw [hw9] at hP hD
                      refine c_catch (pc := 130) (E := nIOE) (pre := []) (xr := ⟨0, 249, 250, 61⟩) (suf := [⟨0, 249, 255, 63⟩, ⟨0, 249, 260, 65⟩]) hC hE (by decide +kernel) (by decide +kernel) rfl (fun _ h => absurd h List.not_mem_nil) (by decide) (by decide) m_4_21 e1 e2 e3 ?_
                      refine lv_astore (lv' := [(5, .ref q9), (0, .ref x), (1, .int (iv 7)), (2, .int (iv a)), (3, .int (iv b)), (4, .int (iv c))]) (pc := 250) hx hb dL_act_250 hl (by decide) rfl (fun ls hl => ?_)
                      refine lv_bipush (pc := 252) (v := iv (-71)) hx hb dL_act_252 (by decide) ?_
                      refine c_iret (pc := 254) hC hQ hP hD hS (by decide) (by decide) dL_act_254 ?_
                      exact ⟨rfl, rfl⟩
                    · have hc9 := hq.1
                      exfalso
                      omega
                  · intro v9 w9 H locs hq hP hD hS
                    have hc9 := hq.1
                    exfalso
                    omega
              · exact absurd c_100 (by decide)
            · exact absurd c_83 (by decide)
          · exact absurd c_61 (by decide)
        · exact absurd c_39 (by decide)
      · exact absurd c_26 (by decide)
    · exact absurd c_14 (by decide)
  · exact absurd c_1 (by decide)

abbrev rm_A_shines_ia : Room := { frames := 9, cells := 2, slots := 12, locals := 203 }
set_option maxRecDepth 100000 in
set_option maxHeartbeats 4000000 in
theorem A_shines_ia (l : Launch) (ε : EV) {x : Nat} {n : Nat → Int} {G : Nat → Nat → Int} {wd : va_W} (hst : l.stackTraces = false) (hH : HS ε x n G wd) (a : Int) (b : Int) (c : Int) (ra : rg a) (rb : rg b) (rc : rg c)  (h9 : (0 ≤ a ∧ a < n 2) ∧ ¬ (0 ≤ b ∧ b ≤ 100000)) : CTW l yL_act cL_act 6 (some .int) [(0, 249, 250, 61), (0, 249, 255, 63), (0, 249, 260, 65)] rm_A_shines_ia ε [.ref x, .int (iv 7), .int (iv a), .int (iv b), .int (iv c)] (wd) (fun v w9 => v = some (.int (iv (-72))) ∧ w9 = wd) NX := by
  refine CTW.intro (by decide +kernel) (Nat.le_of_ble_eq_true rfl) ?_
  intro p9 e9 s9 m9 a9 bl9 me9 c9 ls Q9 hC hE hP hD hl hQ
  have hx := hC.1
  have hb := hC.2.1
  have hK := hE.K
  have hS : WS ε s9.heap s9.heap [] := va_S.rf
  have hl : lv_has ls 6 [(0, .ref x), (1, .int (iv 7)), (2, .int (iv a)), (3, .int (iv b)), (4, .int (iv c))] := hl
  obtain ⟨H, hH⟩ : ∃ H, H = s9.heap := ⟨_, rfl⟩
  obtain ⟨locs, hlo⟩ : ∃ z : List Loc, z = [] := ⟨_, rfl⟩
  rw [← hH] at hP ⊢
  have hS : WS ε s9.heap H locs := by rw [hH, hlo]; exact hS
  rw [← hlo]
  clear hH hlo
  obtain ⟨fo, hob⟩ := hH.ob
  have hN := hH.inv.NB
  have hI := hH.inv
  refine lv_iload_n (pc := 0) hx hb dL_act_0 rfl (lv_at hl 1 rfl) ?_
  refine r_if_ne (pc := 1) (a := 7) hx hb dL_act_1 (tgt := 12) (by decide) ⟨by omega, by omega⟩ (fun c_1 => ?_) (fun c_1 => ?_)
  · have c_1_ := c_1
    refine lv_iload_n (pc := 12) hx hb dL_act_12 rfl (lv_at hl 1 rfl) ?_
    refine lv_iconst (pc := 13) (v := iv 1) hx hb dL_act_13 rfl ?_
    refine r_icmp_ne (pc := 14) (a := 7) (b := 1) hx hb dL_act_14 (tgt := 24) (by decide) ⟨by omega, by omega⟩ ⟨by omega, by omega⟩ (fun c_14 => ?_) (fun c_14 => ?_)
    · have c_14_ := c_14
      refine lv_iload_n (pc := 24) hx hb dL_act_24 rfl (lv_at hl 1 rfl) ?_
      refine lv_iconst (pc := 25) (v := iv 2) hx hb dL_act_25 rfl ?_
      refine r_icmp_ne (pc := 26) (a := 7) (b := 2) hx hb dL_act_26 (tgt := 37) (by decide) ⟨by omega, by omega⟩ ⟨by omega, by omega⟩ (fun c_26 => ?_) (fun c_26 => ?_)
      · have c_26_ := c_26
        refine lv_iload_n (pc := 37) hx hb dL_act_37 rfl (lv_at hl 1 rfl) ?_
        refine lv_iconst (pc := 38) (v := iv 3) hx hb dL_act_38 rfl ?_
        refine r_icmp_ne (pc := 39) (a := 7) (b := 3) hx hb dL_act_39 (tgt := 59) (by decide) ⟨by omega, by omega⟩ ⟨by omega, by omega⟩ (fun c_39 => ?_) (fun c_39 => ?_)
        · have c_39_ := c_39
          refine lv_iload_n (pc := 59) hx hb dL_act_59 rfl (lv_at hl 1 rfl) ?_
          refine lv_iconst (pc := 60) (v := iv 4) hx hb dL_act_60 rfl ?_
          refine r_icmp_ne (pc := 61) (a := 7) (b := 4) hx hb dL_act_61 (tgt := 81) (by decide) ⟨by omega, by omega⟩ ⟨by omega, by omega⟩ (fun c_61 => ?_) (fun c_61 => ?_)
          · have c_61_ := c_61
            refine lv_iload_n (pc := 81) hx hb dL_act_81 rfl (lv_at hl 1 rfl) ?_
            refine lv_iconst (pc := 82) (v := iv 5) hx hb dL_act_82 rfl ?_
            refine r_icmp_ne (pc := 83) (a := 7) (b := 5) hx hb dL_act_83 (tgt := 97) (by decide) ⟨by omega, by omega⟩ ⟨by omega, by omega⟩ (fun c_83 => ?_) (fun c_83 => ?_)
            · have c_83_ := c_83
              refine lv_iload_n (pc := 97) hx hb dL_act_97 rfl (lv_at hl 1 rfl) ?_
              refine lv_bipush (pc := 98) (v := iv 6) hx hb dL_act_98 (by decide) ?_
              refine r_icmp_ne (pc := 100) (a := 7) (b := 6) hx hb dL_act_100 (tgt := 121) (by decide) ⟨by omega, by omega⟩ ⟨by omega, by omega⟩ (fun c_100 => ?_) (fun c_100 => ?_)
              · have c_100_ := c_100
                refine lv_iload_n (pc := 121) hx hb dL_act_121 rfl (lv_at hl 1 rfl) ?_
                refine lv_bipush (pc := 122) (v := iv 7) hx hb dL_act_122 (by decide) ?_
                refine r_icmp_ne (pc := 124) (a := 7) (b := 7) hx hb dL_act_124 (tgt := 144) (by decide) ⟨by omega, by omega⟩ ⟨by omega, by omega⟩ (fun c_124 => ?_) (fun c_124 => ?_)
                · exact absurd c_124 (by decide)
                · have c_124_ := c_124
                  refine lv_aload_n (pc := 127) hx hb dL_act_127 rfl (lv_at hl 0 rfl) ?_
                  refine lv_iload_n (pc := 128) hx hb dL_act_128 rfl (lv_at hl 2 rfl) ?_
                  refine lv_iload_n (pc := 129) hx hb dL_act_129 rfl (lv_at hl 3 rfl) ?_
                  refine c_callV (pc := 130) (y := yX4_shines) (As := [.int (iv a), .int (iv b)]) (rest := []) hC hE hP hD hS hl.1 (c_R_shines l ε wd hst x n G hH.rd hN hI.2.1 hI.2.2.1 a ra b rb) m_10_21 m_10_22 m_10_23 m_0_2 m_10_24 hob rfl hd_yX4_shines rfl ⟨⟨by decide, by decide⟩, by decide, by decide⟩ (Nat.le_of_ble_eq_true rfl) rfl dL_act_130 ?_ ?_
                  · intro E9 ce9 q9 w9 H locs hq hP hD hS e1 e2 e3
                    rcases hq with hq | hq
                    · have hc9 := hq.1
                      exfalso
                      omega
                    · obtain ⟨hc9, rfl, hw9⟩ := hq
                      rw [hw9] at hP hD
                      refine c_catch (pc := 130) (E := nIAE) (pre := [⟨0, 249, 250, 61⟩]) (xr := ⟨0, 249, 255, 63⟩) (suf := [⟨0, 249, 260, 65⟩]) hC hE (by decide +kernel) (by decide +kernel) rfl (List.forall_mem_cons.mpr ⟨⟨by decide, nIOE, by decide +kernel, by decide +kernel, m_4_21⟩, fun _ h => absurd h List.not_mem_nil⟩) (by decide) (by decide) m_4_22 e1 e2 e3 ?_
                      refine lv_astore (lv' := [(5, .ref q9), (0, .ref x), (1, .int (iv 7)), (2, .int (iv a)), (3, .int (iv b)), (4, .int (iv c))]) (pc := 255) hx hb dL_act_255 hl (by decide) rfl (fun ls hl => ?_)
                      refine lv_bipush (pc := 257) (v := iv (-72)) hx hb dL_act_257 (by decide) ?_
                      refine c_iret (pc := 259) hC hQ hP hD hS (by decide) (by decide) dL_act_259 ?_
                      exact ⟨rfl, rfl⟩
                  · intro v9 w9 H locs hq hP hD hS
                    have hc9 := hq.1
                    exfalso
                    omega
              · exact absurd c_100 (by decide)
            · exact absurd c_83 (by decide)
          · exact absurd c_61 (by decide)
        · exact absurd c_39 (by decide)
      · exact absurd c_26 (by decide)
    · exact absurd c_14 (by decide)
  · exact absurd c_1 (by decide)

abbrev rm_A_sector_io : Room := { frames := 9, cells := 3, slots := 18, locals := 204 }
set_option maxRecDepth 100000 in
set_option maxHeartbeats 4000000 in
theorem A_sector_io (l : Launch) (ε : EV) {x : Nat} {n : Nat → Int} {G : Nat → Nat → Int} {wd : va_W} (hst : l.stackTraces = false) (hH : HS ε x n G wd) (a : Int) (b : Int) (c : Int) (ra : rg a) (rb : rg b) (rc : rg c)  (h9 : ¬ (0 ≤ a ∧ a < n 2)) : CTW l yL_act cL_act 6 (some .int) [(0, 249, 250, 61), (0, 249, 255, 63), (0, 249, 260, 65)] rm_A_sector_io ε [.ref x, .int (iv 8), .int (iv a), .int (iv b), .int (iv c)] (wd) (fun v w9 => v = some (.int (iv (-71))) ∧ w9 = wd) NX := by
  refine CTW.intro (by decide +kernel) (Nat.le_of_ble_eq_true rfl) ?_
  intro p9 e9 s9 m9 a9 bl9 me9 c9 ls Q9 hC hE hP hD hl hQ
  have hx := hC.1
  have hb := hC.2.1
  have hK := hE.K
  have hS : WS ε s9.heap s9.heap [] := va_S.rf
  have hl : lv_has ls 6 [(0, .ref x), (1, .int (iv 8)), (2, .int (iv a)), (3, .int (iv b)), (4, .int (iv c))] := hl
  obtain ⟨H, hH⟩ : ∃ H, H = s9.heap := ⟨_, rfl⟩
  obtain ⟨locs, hlo⟩ : ∃ z : List Loc, z = [] := ⟨_, rfl⟩
  rw [← hH] at hP ⊢
  have hS : WS ε s9.heap H locs := by rw [hH, hlo]; exact hS
  rw [← hlo]
  clear hH hlo
  obtain ⟨fo, hob⟩ := hH.ob
  have hN := hH.inv.NB
  have hI := hH.inv
  refine lv_iload_n (pc := 0) hx hb dL_act_0 rfl (lv_at hl 1 rfl) ?_
  refine r_if_ne (pc := 1) (a := 8) hx hb dL_act_1 (tgt := 12) (by decide) ⟨by omega, by omega⟩ (fun c_1 => ?_) (fun c_1 => ?_)
  · have c_1_ := c_1
    refine lv_iload_n (pc := 12) hx hb dL_act_12 rfl (lv_at hl 1 rfl) ?_
    refine lv_iconst (pc := 13) (v := iv 1) hx hb dL_act_13 rfl ?_
    refine r_icmp_ne (pc := 14) (a := 8) (b := 1) hx hb dL_act_14 (tgt := 24) (by decide) ⟨by omega, by omega⟩ ⟨by omega, by omega⟩ (fun c_14 => ?_) (fun c_14 => ?_)
    · have c_14_ := c_14
      refine lv_iload_n (pc := 24) hx hb dL_act_24 rfl (lv_at hl 1 rfl) ?_
      refine lv_iconst (pc := 25) (v := iv 2) hx hb dL_act_25 rfl ?_
      refine r_icmp_ne (pc := 26) (a := 8) (b := 2) hx hb dL_act_26 (tgt := 37) (by decide) ⟨by omega, by omega⟩ ⟨by omega, by omega⟩ (fun c_26 => ?_) (fun c_26 => ?_)
      · have c_26_ := c_26
        refine lv_iload_n (pc := 37) hx hb dL_act_37 rfl (lv_at hl 1 rfl) ?_
        refine lv_iconst (pc := 38) (v := iv 3) hx hb dL_act_38 rfl ?_
        refine r_icmp_ne (pc := 39) (a := 8) (b := 3) hx hb dL_act_39 (tgt := 59) (by decide) ⟨by omega, by omega⟩ ⟨by omega, by omega⟩ (fun c_39 => ?_) (fun c_39 => ?_)
        · have c_39_ := c_39
          refine lv_iload_n (pc := 59) hx hb dL_act_59 rfl (lv_at hl 1 rfl) ?_
          refine lv_iconst (pc := 60) (v := iv 4) hx hb dL_act_60 rfl ?_
          refine r_icmp_ne (pc := 61) (a := 8) (b := 4) hx hb dL_act_61 (tgt := 81) (by decide) ⟨by omega, by omega⟩ ⟨by omega, by omega⟩ (fun c_61 => ?_) (fun c_61 => ?_)
          · have c_61_ := c_61
            refine lv_iload_n (pc := 81) hx hb dL_act_81 rfl (lv_at hl 1 rfl) ?_
            refine lv_iconst (pc := 82) (v := iv 5) hx hb dL_act_82 rfl ?_
            refine r_icmp_ne (pc := 83) (a := 8) (b := 5) hx hb dL_act_83 (tgt := 97) (by decide) ⟨by omega, by omega⟩ ⟨by omega, by omega⟩ (fun c_83 => ?_) (fun c_83 => ?_)
            · have c_83_ := c_83
              refine lv_iload_n (pc := 97) hx hb dL_act_97 rfl (lv_at hl 1 rfl) ?_
              refine lv_bipush (pc := 98) (v := iv 6) hx hb dL_act_98 (by decide) ?_
              refine r_icmp_ne (pc := 100) (a := 8) (b := 6) hx hb dL_act_100 (tgt := 121) (by decide) ⟨by omega, by omega⟩ ⟨by omega, by omega⟩ (fun c_100 => ?_) (fun c_100 => ?_)
              · have c_100_ := c_100
                refine lv_iload_n (pc := 121) hx hb dL_act_121 rfl (lv_at hl 1 rfl) ?_
                refine lv_bipush (pc := 122) (v := iv 7) hx hb dL_act_122 (by decide) ?_
                refine r_icmp_ne (pc := 124) (a := 8) (b := 7) hx hb dL_act_124 (tgt := 144) (by decide) ⟨by omega, by omega⟩ ⟨by omega, by omega⟩ (fun c_124 => ?_) (fun c_124 => ?_)
                · have c_124_ := c_124
                  refine lv_iload_n (pc := 144) hx hb dL_act_144 rfl (lv_at hl 1 rfl) ?_
                  refine lv_bipush (pc := 145) (v := iv 8) hx hb dL_act_145 (by decide) ?_
                  refine r_icmp_ne (pc := 147) (a := 8) (b := 8) hx hb dL_act_147 (tgt := 161) (by decide) ⟨by omega, by omega⟩ ⟨by omega, by omega⟩ (fun c_147 => ?_) (fun c_147 => ?_)
                  · exact absurd c_147 (by decide)
                  · have c_147_ := c_147
                    refine lv_aload_n (pc := 150) hx hb dL_act_150 rfl (lv_at hl 0 rfl) ?_
                    refine lv_iload_n (pc := 151) hx hb dL_act_151 rfl (lv_at hl 2 rfl) ?_
                    refine lv_iload_n (pc := 152) hx hb dL_act_152 rfl (lv_at hl 3 rfl) ?_
                    refine lv_iload (pc := 153) hx hb dL_act_153 (lv_at hl 4 rfl) ?_
                    refine c_callV (pc := 155) (y := yX4_sector) (As := [.int (iv a), .int (iv b), .int (iv c)]) (rest := []) hC hE hP hD hS hl.1 (c_R_sector l ε wd hst x n G hH.rd hN hI.2.1 hI.2.2.1 a ra b c rb rc) m_11_6 m_11_7 m_11_8 m_0_2 m_11_9 hob rfl hd_yX4_sector rfl ⟨⟨by decide, by decide⟩, by decide, by decide⟩ (Nat.le_of_ble_eq_true rfl) rfl dL_act_155 ?_ ?_
                    · intro E9 ce9 q9 w9 H locs hq hP hD hS e1 e2 e3
                      rcases hq with hq | hq
                      · obtain ⟨hc9, rfl, hw9⟩ := hq
                        rw [hw9] at hP hD
                        refine c_catch (pc := 155) (E := nIOE) (pre := []) (xr := ⟨0, 249, 250, 61⟩) (suf := [⟨0, 249, 255, 63⟩, ⟨0, 249, 260, 65⟩]) hC hE (by decide +kernel) (by decide +kernel) rfl (fun _ h => absurd h List.not_mem_nil) (by decide) (by decide) m_4_21 e1 e2 e3 ?_
                        refine lv_astore (lv' := [(5, .ref q9), (0, .ref x), (1, .int (iv 8)), (2, .int (iv a)), (3, .int (iv b)), (4, .int (iv c))]) (pc := 250) hx hb dL_act_250 hl (by decide) rfl (fun ls hl => ?_)
                        refine lv_bipush (pc := 252) (v := iv (-71)) hx hb dL_act_252 (by decide) ?_
                        refine c_iret (pc := 254) hC hQ hP hD hS (by decide) (by decide) dL_act_254 ?_
                        exact ⟨rfl, rfl⟩
                      · have hc9 := hq.1
                        exfalso
                        omega
                    · intro v9 w9 H locs hq hP hD hS
                      have hc9 := hq.1
                      exfalso
                      omega
                · exact absurd c_124 (by decide)
              · exact absurd c_100 (by decide)
            · exact absurd c_83 (by decide)
          · exact absurd c_61 (by decide)
        · exact absurd c_39 (by decide)
      · exact absurd c_26 (by decide)
    · exact absurd c_14 (by decide)
  · exact absurd c_1 (by decide)

abbrev rm_A_sector_ia : Room := { frames := 9, cells := 3, slots := 18, locals := 204 }
set_option maxRecDepth 100000 in
set_option maxHeartbeats 4000000 in
theorem A_sector_ia (l : Launch) (ε : EV) {x : Nat} {n : Nat → Int} {G : Nat → Nat → Int} {wd : va_W} (hst : l.stackTraces = false) (hH : HS ε x n G wd) (a : Int) (b : Int) (c : Int) (ra : rg a) (rb : rg b) (rc : rg c)  (h9 : (0 ≤ a ∧ a < n 2) ∧ ¬ ((0 ≤ b ∧ b ≤ 31) ∧ 0 ≤ c ∧ c ≤ 31)) : CTW l yL_act cL_act 6 (some .int) [(0, 249, 250, 61), (0, 249, 255, 63), (0, 249, 260, 65)] rm_A_sector_ia ε [.ref x, .int (iv 8), .int (iv a), .int (iv b), .int (iv c)] (wd) (fun v w9 => v = some (.int (iv (-72))) ∧ w9 = wd) NX := by
  refine CTW.intro (by decide +kernel) (Nat.le_of_ble_eq_true rfl) ?_
  intro p9 e9 s9 m9 a9 bl9 me9 c9 ls Q9 hC hE hP hD hl hQ
  have hx := hC.1
  have hb := hC.2.1
  have hK := hE.K
  have hS : WS ε s9.heap s9.heap [] := va_S.rf
  have hl : lv_has ls 6 [(0, .ref x), (1, .int (iv 8)), (2, .int (iv a)), (3, .int (iv b)), (4, .int (iv c))] := hl
  obtain ⟨H, hH⟩ : ∃ H, H = s9.heap := ⟨_, rfl⟩
  obtain ⟨locs, hlo⟩ : ∃ z : List Loc, z = [] := ⟨_, rfl⟩
  rw [← hH] at hP ⊢
  have hS : WS ε s9.heap H locs := by rw [hH, hlo]; exact hS
  rw [← hlo]
  clear hH hlo
  obtain ⟨fo, hob⟩ := hH.ob
  have hN := hH.inv.NB
  have hI := hH.inv
  refine lv_iload_n (pc := 0) hx hb dL_act_0 rfl (lv_at hl 1 rfl) ?_
  refine r_if_ne (pc := 1) (a := 8) hx hb dL_act_1 (tgt := 12) (by decide) ⟨by omega, by omega⟩ (fun c_1 => ?_) (fun c_1 => ?_)
  · have c_1_ := c_1
    refine lv_iload_n (pc := 12) hx hb dL_act_12 rfl (lv_at hl 1 rfl) ?_
    refine lv_iconst (pc := 13) (v := iv 1) hx hb dL_act_13 rfl ?_
    refine r_icmp_ne (pc := 14) (a := 8) (b := 1) hx hb dL_act_14 (tgt := 24) (by decide) ⟨by omega, by omega⟩ ⟨by omega, by omega⟩ (fun c_14 => ?_) (fun c_14 => ?_)
    · have c_14_ := c_14
      refine lv_iload_n (pc := 24) hx hb dL_act_24 rfl (lv_at hl 1 rfl) ?_
      refine lv_iconst (pc := 25) (v := iv 2) hx hb dL_act_25 rfl ?_
      refine r_icmp_ne (pc := 26) (a := 8) (b := 2) hx hb dL_act_26 (tgt := 37) (by decide) ⟨by omega, by omega⟩ ⟨by omega, by omega⟩ (fun c_26 => ?_) (fun c_26 => ?_)
      · have c_26_ := c_26
        refine lv_iload_n (pc := 37) hx hb dL_act_37 rfl (lv_at hl 1 rfl) ?_
        refine lv_iconst (pc := 38) (v := iv 3) hx hb dL_act_38 rfl ?_
        refine r_icmp_ne (pc := 39) (a := 8) (b := 3) hx hb dL_act_39 (tgt := 59) (by decide) ⟨by omega, by omega⟩ ⟨by omega, by omega⟩ (fun c_39 => ?_) (fun c_39 => ?_)
        · have c_39_ := c_39
          refine lv_iload_n (pc := 59) hx hb dL_act_59 rfl (lv_at hl 1 rfl) ?_
          refine lv_iconst (pc := 60) (v := iv 4) hx hb dL_act_60 rfl ?_
          refine r_icmp_ne (pc := 61) (a := 8) (b := 4) hx hb dL_act_61 (tgt := 81) (by decide) ⟨by omega, by omega⟩ ⟨by omega, by omega⟩ (fun c_61 => ?_) (fun c_61 => ?_)
          · have c_61_ := c_61
            refine lv_iload_n (pc := 81) hx hb dL_act_81 rfl (lv_at hl 1 rfl) ?_
            refine lv_iconst (pc := 82) (v := iv 5) hx hb dL_act_82 rfl ?_
            refine r_icmp_ne (pc := 83) (a := 8) (b := 5) hx hb dL_act_83 (tgt := 97) (by decide) ⟨by omega, by omega⟩ ⟨by omega, by omega⟩ (fun c_83 => ?_) (fun c_83 => ?_)
            · have c_83_ := c_83
              refine lv_iload_n (pc := 97) hx hb dL_act_97 rfl (lv_at hl 1 rfl) ?_
              refine lv_bipush (pc := 98) (v := iv 6) hx hb dL_act_98 (by decide) ?_
              refine r_icmp_ne (pc := 100) (a := 8) (b := 6) hx hb dL_act_100 (tgt := 121) (by decide) ⟨by omega, by omega⟩ ⟨by omega, by omega⟩ (fun c_100 => ?_) (fun c_100 => ?_)
              · have c_100_ := c_100
                refine lv_iload_n (pc := 121) hx hb dL_act_121 rfl (lv_at hl 1 rfl) ?_
                refine lv_bipush (pc := 122) (v := iv 7) hx hb dL_act_122 (by decide) ?_
                refine r_icmp_ne (pc := 124) (a := 8) (b := 7) hx hb dL_act_124 (tgt := 144) (by decide) ⟨by omega, by omega⟩ ⟨by omega, by omega⟩ (fun c_124 => ?_) (fun c_124 => ?_)
                · have c_124_ := c_124
                  refine lv_iload_n (pc := 144) hx hb dL_act_144 rfl (lv_at hl 1 rfl) ?_
                  refine lv_bipush (pc := 145) (v := iv 8) hx hb dL_act_145 (by decide) ?_
                  refine r_icmp_ne (pc := 147) (a := 8) (b := 8) hx hb dL_act_147 (tgt := 161) (by decide) ⟨by omega, by omega⟩ ⟨by omega, by omega⟩ (fun c_147 => ?_) (fun c_147 => ?_)
                  · exact absurd c_147 (by decide)
                  · have c_147_ := c_147
                    refine lv_aload_n (pc := 150) hx hb dL_act_150 rfl (lv_at hl 0 rfl) ?_
                    refine lv_iload_n (pc := 151) hx hb dL_act_151 rfl (lv_at hl 2 rfl) ?_
                    refine lv_iload_n (pc := 152) hx hb dL_act_152 rfl (lv_at hl 3 rfl) ?_
                    refine lv_iload (pc := 153) hx hb dL_act_153 (lv_at hl 4 rfl) ?_
                    refine c_callV (pc := 155) (y := yX4_sector) (As := [.int (iv a), .int (iv b), .int (iv c)]) (rest := []) hC hE hP hD hS hl.1 (c_R_sector l ε wd hst x n G hH.rd hN hI.2.1 hI.2.2.1 a ra b c rb rc) m_11_6 m_11_7 m_11_8 m_0_2 m_11_9 hob rfl hd_yX4_sector rfl ⟨⟨by decide, by decide⟩, by decide, by decide⟩ (Nat.le_of_ble_eq_true rfl) rfl dL_act_155 ?_ ?_
                    · intro E9 ce9 q9 w9 H locs hq hP hD hS e1 e2 e3
                      rcases hq with hq | hq
                      · have hc9 := hq.1
                        exfalso
                        omega
                      · obtain ⟨hc9, rfl, hw9⟩ := hq
                        rw [hw9] at hP hD
                        refine c_catch (pc := 155) (E := nIAE) (pre := [⟨0, 249, 250, 61⟩]) (xr := ⟨0, 249, 255, 63⟩) (suf := [⟨0, 249, 260, 65⟩]) hC hE (by decide +kernel) (by decide +kernel) rfl (List.forall_mem_cons.mpr ⟨⟨by decide, nIOE, by decide +kernel, by decide +kernel, m_4_21⟩, fun _ h => absurd h List.not_mem_nil⟩) (by decide) (by decide) m_4_22 e1 e2 e3 ?_
                        refine lv_astore (lv' := [(5, .ref q9), (0, .ref x), (1, .int (iv 8)), (2, .int (iv a)), (3, .int (iv b)), (4, .int (iv c))]) (pc := 255) hx hb dL_act_255 hl (by decide) rfl (fun ls hl => ?_)
                        refine lv_bipush (pc := 257) (v := iv (-72)) hx hb dL_act_257 (by decide) ?_
                        refine c_iret (pc := 259) hC hQ hP hD hS (by decide) (by decide) dL_act_259 ?_
                        exact ⟨rfl, rfl⟩
                    · intro v9 w9 H locs hq hP hD hS
                      have hc9 := hq.1
                      exfalso
                      omega
                · exact absurd c_124 (by decide)
              · exact absurd c_100 (by decide)
            · exact absurd c_83 (by decide)
          · exact absurd c_61 (by decide)
        · exact absurd c_39 (by decide)
      · exact absurd c_26 (by decide)
    · exact absurd c_14 (by decide)
  · exact absurd c_1 (by decide)

abbrev rm_A_isSeen_io : Room := { frames := 9, cells := 3, slots := 18, locals := 204 }
set_option maxRecDepth 100000 in
set_option maxHeartbeats 4000000 in
theorem A_isSeen_io (l : Launch) (ε : EV) {x : Nat} {n : Nat → Int} {G : Nat → Nat → Int} {wd : va_W} (hst : l.stackTraces = false) (hH : HS ε x n G wd) (a : Int) (b : Int) (c : Int) (ra : rg a) (rb : rg b) (rc : rg c)  (h9 : ¬ (0 ≤ a ∧ a < n 2)) : CTW l yL_act cL_act 6 (some .int) [(0, 249, 250, 61), (0, 249, 255, 63), (0, 249, 260, 65)] rm_A_isSeen_io ε [.ref x, .int (iv 9), .int (iv a), .int (iv b), .int (iv c)] (wd) (fun v w9 => v = some (.int (iv (-71))) ∧ w9 = wd) NX := by
  refine CTW.intro (by decide +kernel) (Nat.le_of_ble_eq_true rfl) ?_
  intro p9 e9 s9 m9 a9 bl9 me9 c9 ls Q9 hC hE hP hD hl hQ
  have hx := hC.1
  have hb := hC.2.1
  have hK := hE.K
  have hS : WS ε s9.heap s9.heap [] := va_S.rf
  have hl : lv_has ls 6 [(0, .ref x), (1, .int (iv 9)), (2, .int (iv a)), (3, .int (iv b)), (4, .int (iv c))] := hl
  obtain ⟨H, hH⟩ : ∃ H, H = s9.heap := ⟨_, rfl⟩
  obtain ⟨locs, hlo⟩ : ∃ z : List Loc, z = [] := ⟨_, rfl⟩
  rw [← hH] at hP ⊢
  have hS : WS ε s9.heap H locs := by rw [hH, hlo]; exact hS
  rw [← hlo]
  clear hH hlo
  obtain ⟨fo, hob⟩ := hH.ob
  have hN := hH.inv.NB
  have hI := hH.inv
  refine lv_iload_n (pc := 0) hx hb dL_act_0 rfl (lv_at hl 1 rfl) ?_
  refine r_if_ne (pc := 1) (a := 9) hx hb dL_act_1 (tgt := 12) (by decide) ⟨by omega, by omega⟩ (fun c_1 => ?_) (fun c_1 => ?_)
  · have c_1_ := c_1
    refine lv_iload_n (pc := 12) hx hb dL_act_12 rfl (lv_at hl 1 rfl) ?_
    refine lv_iconst (pc := 13) (v := iv 1) hx hb dL_act_13 rfl ?_
    refine r_icmp_ne (pc := 14) (a := 9) (b := 1) hx hb dL_act_14 (tgt := 24) (by decide) ⟨by omega, by omega⟩ ⟨by omega, by omega⟩ (fun c_14 => ?_) (fun c_14 => ?_)
    · have c_14_ := c_14
      refine lv_iload_n (pc := 24) hx hb dL_act_24 rfl (lv_at hl 1 rfl) ?_
      refine lv_iconst (pc := 25) (v := iv 2) hx hb dL_act_25 rfl ?_
      refine r_icmp_ne (pc := 26) (a := 9) (b := 2) hx hb dL_act_26 (tgt := 37) (by decide) ⟨by omega, by omega⟩ ⟨by omega, by omega⟩ (fun c_26 => ?_) (fun c_26 => ?_)
      · have c_26_ := c_26
        refine lv_iload_n (pc := 37) hx hb dL_act_37 rfl (lv_at hl 1 rfl) ?_
        refine lv_iconst (pc := 38) (v := iv 3) hx hb dL_act_38 rfl ?_
        refine r_icmp_ne (pc := 39) (a := 9) (b := 3) hx hb dL_act_39 (tgt := 59) (by decide) ⟨by omega, by omega⟩ ⟨by omega, by omega⟩ (fun c_39 => ?_) (fun c_39 => ?_)
        · have c_39_ := c_39
          refine lv_iload_n (pc := 59) hx hb dL_act_59 rfl (lv_at hl 1 rfl) ?_
          refine lv_iconst (pc := 60) (v := iv 4) hx hb dL_act_60 rfl ?_
          refine r_icmp_ne (pc := 61) (a := 9) (b := 4) hx hb dL_act_61 (tgt := 81) (by decide) ⟨by omega, by omega⟩ ⟨by omega, by omega⟩ (fun c_61 => ?_) (fun c_61 => ?_)
          · have c_61_ := c_61
            refine lv_iload_n (pc := 81) hx hb dL_act_81 rfl (lv_at hl 1 rfl) ?_
            refine lv_iconst (pc := 82) (v := iv 5) hx hb dL_act_82 rfl ?_
            refine r_icmp_ne (pc := 83) (a := 9) (b := 5) hx hb dL_act_83 (tgt := 97) (by decide) ⟨by omega, by omega⟩ ⟨by omega, by omega⟩ (fun c_83 => ?_) (fun c_83 => ?_)
            · have c_83_ := c_83
              refine lv_iload_n (pc := 97) hx hb dL_act_97 rfl (lv_at hl 1 rfl) ?_
              refine lv_bipush (pc := 98) (v := iv 6) hx hb dL_act_98 (by decide) ?_
              refine r_icmp_ne (pc := 100) (a := 9) (b := 6) hx hb dL_act_100 (tgt := 121) (by decide) ⟨by omega, by omega⟩ ⟨by omega, by omega⟩ (fun c_100 => ?_) (fun c_100 => ?_)
              · have c_100_ := c_100
                refine lv_iload_n (pc := 121) hx hb dL_act_121 rfl (lv_at hl 1 rfl) ?_
                refine lv_bipush (pc := 122) (v := iv 7) hx hb dL_act_122 (by decide) ?_
                refine r_icmp_ne (pc := 124) (a := 9) (b := 7) hx hb dL_act_124 (tgt := 144) (by decide) ⟨by omega, by omega⟩ ⟨by omega, by omega⟩ (fun c_124 => ?_) (fun c_124 => ?_)
                · have c_124_ := c_124
                  refine lv_iload_n (pc := 144) hx hb dL_act_144 rfl (lv_at hl 1 rfl) ?_
                  refine lv_bipush (pc := 145) (v := iv 8) hx hb dL_act_145 (by decide) ?_
                  refine r_icmp_ne (pc := 147) (a := 9) (b := 8) hx hb dL_act_147 (tgt := 161) (by decide) ⟨by omega, by omega⟩ ⟨by omega, by omega⟩ (fun c_147 => ?_) (fun c_147 => ?_)
                  · have c_147_ := c_147
                    refine lv_iload_n (pc := 161) hx hb dL_act_161 rfl (lv_at hl 1 rfl) ?_
                    refine lv_bipush (pc := 162) (v := iv 9) hx hb dL_act_162 (by decide) ?_
                    refine r_icmp_ne (pc := 164) (a := 9) (b := 9) hx hb dL_act_164 (tgt := 186) (by decide) ⟨by omega, by omega⟩ ⟨by omega, by omega⟩ (fun c_164 => ?_) (fun c_164 => ?_)
                    · exact absurd c_164 (by decide)
                    · have c_164_ := c_164
                      refine lv_aload_n (pc := 167) hx hb dL_act_167 rfl (lv_at hl 0 rfl) ?_
                      refine lv_iload_n (pc := 168) hx hb dL_act_168 rfl (lv_at hl 2 rfl) ?_
                      refine lv_iload_n (pc := 169) hx hb dL_act_169 rfl (lv_at hl 3 rfl) ?_
                      refine lv_iload (pc := 170) hx hb dL_act_170 (lv_at hl 4 rfl) ?_
                      refine c_callV (pc := 172) (y := yX4_isSeen) (As := [.int (iv a), .int (iv b), .int (iv c)]) (rest := []) hC hE hP hD hS hl.1 (c_R_isSeen l ε wd hst x n G hH.rd hN hI.2.1 hI.2.2.1 a ra b c rb rc) m_11_24 m_12_0 m_12_1 m_0_2 m_12_2 hob rfl hd_yX4_isSeen rfl ⟨⟨by decide, by decide⟩, by decide, by decide⟩ (Nat.le_of_ble_eq_true rfl) rfl dL_act_172 ?_ ?_
                      · intro E9 ce9 q9 w9 H locs hq hP hD hS e1 e2 e3
                        rcases hq with hq | hq
                        · obtain ⟨hc9, rfl, hw9⟩ := hq
                          rw [hw9] at hP hD
                          refine c_catch (pc := 172) (E := nIOE) (pre := []) (xr := ⟨0, 249, 250, 61⟩) (suf := [⟨0, 249, 255, 63⟩, ⟨0, 249, 260, 65⟩]) hC hE (by decide +kernel) (by decide +kernel) rfl (fun _ h => absurd h List.not_mem_nil) (by decide) (by decide) m_4_21 e1 e2 e3 ?_
                          refine lv_astore (lv' := [(5, .ref q9), (0, .ref x), (1, .int (iv 9)), (2, .int (iv a)), (3, .int (iv b)), (4, .int (iv c))]) (pc := 250) hx hb dL_act_250 hl (by decide) rfl (fun ls hl => ?_)
                          refine lv_bipush (pc := 252) (v := iv (-71)) hx hb dL_act_252 (by decide) ?_
                          refine c_iret (pc := 254) hC hQ hP hD hS (by decide) (by decide) dL_act_254 ?_
                          exact ⟨rfl, rfl⟩
                        · have hc9 := hq.1
                          exfalso
                          omega
                      · intro v9 w9 H locs hq hP hD hS
                        have hc9 := hq.1
                        exfalso
                        omega
                  · exact absurd c_147 (by decide)
                · exact absurd c_124 (by decide)
              · exact absurd c_100 (by decide)
            · exact absurd c_83 (by decide)
          · exact absurd c_61 (by decide)
        · exact absurd c_39 (by decide)
      · exact absurd c_26 (by decide)
    · exact absurd c_14 (by decide)
  · exact absurd c_1 (by decide)

abbrev rm_A_isSeen_ia : Room := { frames := 9, cells := 3, slots := 18, locals := 204 }
set_option maxRecDepth 100000 in
set_option maxHeartbeats 4000000 in
theorem A_isSeen_ia (l : Launch) (ε : EV) {x : Nat} {n : Nat → Int} {G : Nat → Nat → Int} {wd : va_W} (hst : l.stackTraces = false) (hH : HS ε x n G wd) (a : Int) (b : Int) (c : Int) (ra : rg a) (rb : rg b) (rc : rg c)  (h9 : (0 ≤ a ∧ a < n 2) ∧ ¬ ((0 ≤ b ∧ b ≤ 31) ∧ 0 ≤ c ∧ c ≤ 31)) : CTW l yL_act cL_act 6 (some .int) [(0, 249, 250, 61), (0, 249, 255, 63), (0, 249, 260, 65)] rm_A_isSeen_ia ε [.ref x, .int (iv 9), .int (iv a), .int (iv b), .int (iv c)] (wd) (fun v w9 => v = some (.int (iv (-72))) ∧ w9 = wd) NX := by
  refine CTW.intro (by decide +kernel) (Nat.le_of_ble_eq_true rfl) ?_
  intro p9 e9 s9 m9 a9 bl9 me9 c9 ls Q9 hC hE hP hD hl hQ
  have hx := hC.1
  have hb := hC.2.1
  have hK := hE.K
  have hS : WS ε s9.heap s9.heap [] := va_S.rf
  have hl : lv_has ls 6 [(0, .ref x), (1, .int (iv 9)), (2, .int (iv a)), (3, .int (iv b)), (4, .int (iv c))] := hl
  obtain ⟨H, hH⟩ : ∃ H, H = s9.heap := ⟨_, rfl⟩
  obtain ⟨locs, hlo⟩ : ∃ z : List Loc, z = [] := ⟨_, rfl⟩
  rw [← hH] at hP ⊢
  have hS : WS ε s9.heap H locs := by rw [hH, hlo]; exact hS
  rw [← hlo]
  clear hH hlo
  obtain ⟨fo, hob⟩ := hH.ob
  have hN := hH.inv.NB
  have hI := hH.inv
  refine lv_iload_n (pc := 0) hx hb dL_act_0 rfl (lv_at hl 1 rfl) ?_
  refine r_if_ne (pc := 1) (a := 9) hx hb dL_act_1 (tgt := 12) (by decide) ⟨by omega, by omega⟩ (fun c_1 => ?_) (fun c_1 => ?_)
  · have c_1_ := c_1
    refine lv_iload_n (pc := 12) hx hb dL_act_12 rfl (lv_at hl 1 rfl) ?_
    refine lv_iconst (pc := 13) (v := iv 1) hx hb dL_act_13 rfl ?_
    refine r_icmp_ne (pc := 14) (a := 9) (b := 1) hx hb dL_act_14 (tgt := 24) (by decide) ⟨by omega, by omega⟩ ⟨by omega, by omega⟩ (fun c_14 => ?_) (fun c_14 => ?_)
    · have c_14_ := c_14
      refine lv_iload_n (pc := 24) hx hb dL_act_24 rfl (lv_at hl 1 rfl) ?_
      refine lv_iconst (pc := 25) (v := iv 2) hx hb dL_act_25 rfl ?_
      refine r_icmp_ne (pc := 26) (a := 9) (b := 2) hx hb dL_act_26 (tgt := 37) (by decide) ⟨by omega, by omega⟩ ⟨by omega, by omega⟩ (fun c_26 => ?_) (fun c_26 => ?_)
      · have c_26_ := c_26
        refine lv_iload_n (pc := 37) hx hb dL_act_37 rfl (lv_at hl 1 rfl) ?_
        refine lv_iconst (pc := 38) (v := iv 3) hx hb dL_act_38 rfl ?_
        refine r_icmp_ne (pc := 39) (a := 9) (b := 3) hx hb dL_act_39 (tgt := 59) (by decide) ⟨by omega, by omega⟩ ⟨by omega, by omega⟩ (fun c_39 => ?_) (fun c_39 => ?_)
        · have c_39_ := c_39
          refine lv_iload_n (pc := 59) hx hb dL_act_59 rfl (lv_at hl 1 rfl) ?_
          refine lv_iconst (pc := 60) (v := iv 4) hx hb dL_act_60 rfl ?_
          refine r_icmp_ne (pc := 61) (a := 9) (b := 4) hx hb dL_act_61 (tgt := 81) (by decide) ⟨by omega, by omega⟩ ⟨by omega, by omega⟩ (fun c_61 => ?_) (fun c_61 => ?_)
          · have c_61_ := c_61
            refine lv_iload_n (pc := 81) hx hb dL_act_81 rfl (lv_at hl 1 rfl) ?_
            refine lv_iconst (pc := 82) (v := iv 5) hx hb dL_act_82 rfl ?_
            refine r_icmp_ne (pc := 83) (a := 9) (b := 5) hx hb dL_act_83 (tgt := 97) (by decide) ⟨by omega, by omega⟩ ⟨by omega, by omega⟩ (fun c_83 => ?_) (fun c_83 => ?_)
            · have c_83_ := c_83
              refine lv_iload_n (pc := 97) hx hb dL_act_97 rfl (lv_at hl 1 rfl) ?_
              refine lv_bipush (pc := 98) (v := iv 6) hx hb dL_act_98 (by decide) ?_
              refine r_icmp_ne (pc := 100) (a := 9) (b := 6) hx hb dL_act_100 (tgt := 121) (by decide) ⟨by omega, by omega⟩ ⟨by omega, by omega⟩ (fun c_100 => ?_) (fun c_100 => ?_)
              · have c_100_ := c_100
                refine lv_iload_n (pc := 121) hx hb dL_act_121 rfl (lv_at hl 1 rfl) ?_
                refine lv_bipush (pc := 122) (v := iv 7) hx hb dL_act_122 (by decide) ?_
                refine r_icmp_ne (pc := 124) (a := 9) (b := 7) hx hb dL_act_124 (tgt := 144) (by decide) ⟨by omega, by omega⟩ ⟨by omega, by omega⟩ (fun c_124 => ?_) (fun c_124 => ?_)
                · have c_124_ := c_124
                  refine lv_iload_n (pc := 144) hx hb dL_act_144 rfl (lv_at hl 1 rfl) ?_
                  refine lv_bipush (pc := 145) (v := iv 8) hx hb dL_act_145 (by decide) ?_
                  refine r_icmp_ne (pc := 147) (a := 9) (b := 8) hx hb dL_act_147 (tgt := 161) (by decide) ⟨by omega, by omega⟩ ⟨by omega, by omega⟩ (fun c_147 => ?_) (fun c_147 => ?_)
                  · have c_147_ := c_147
                    refine lv_iload_n (pc := 161) hx hb dL_act_161 rfl (lv_at hl 1 rfl) ?_
                    refine lv_bipush (pc := 162) (v := iv 9) hx hb dL_act_162 (by decide) ?_
                    refine r_icmp_ne (pc := 164) (a := 9) (b := 9) hx hb dL_act_164 (tgt := 186) (by decide) ⟨by omega, by omega⟩ ⟨by omega, by omega⟩ (fun c_164 => ?_) (fun c_164 => ?_)
                    · exact absurd c_164 (by decide)
                    · have c_164_ := c_164
                      refine lv_aload_n (pc := 167) hx hb dL_act_167 rfl (lv_at hl 0 rfl) ?_
                      refine lv_iload_n (pc := 168) hx hb dL_act_168 rfl (lv_at hl 2 rfl) ?_
                      refine lv_iload_n (pc := 169) hx hb dL_act_169 rfl (lv_at hl 3 rfl) ?_
                      refine lv_iload (pc := 170) hx hb dL_act_170 (lv_at hl 4 rfl) ?_
                      refine c_callV (pc := 172) (y := yX4_isSeen) (As := [.int (iv a), .int (iv b), .int (iv c)]) (rest := []) hC hE hP hD hS hl.1 (c_R_isSeen l ε wd hst x n G hH.rd hN hI.2.1 hI.2.2.1 a ra b c rb rc) m_11_24 m_12_0 m_12_1 m_0_2 m_12_2 hob rfl hd_yX4_isSeen rfl ⟨⟨by decide, by decide⟩, by decide, by decide⟩ (Nat.le_of_ble_eq_true rfl) rfl dL_act_172 ?_ ?_
                      · intro E9 ce9 q9 w9 H locs hq hP hD hS e1 e2 e3
                        rcases hq with hq | hq
                        · have hc9 := hq.1
                          exfalso
                          omega
                        · obtain ⟨hc9, rfl, hw9⟩ := hq
                          rw [hw9] at hP hD
                          refine c_catch (pc := 172) (E := nIAE) (pre := [⟨0, 249, 250, 61⟩]) (xr := ⟨0, 249, 255, 63⟩) (suf := [⟨0, 249, 260, 65⟩]) hC hE (by decide +kernel) (by decide +kernel) rfl (List.forall_mem_cons.mpr ⟨⟨by decide, nIOE, by decide +kernel, by decide +kernel, m_4_21⟩, fun _ h => absurd h List.not_mem_nil⟩) (by decide) (by decide) m_4_22 e1 e2 e3 ?_
                          refine lv_astore (lv' := [(5, .ref q9), (0, .ref x), (1, .int (iv 9)), (2, .int (iv a)), (3, .int (iv b)), (4, .int (iv c))]) (pc := 255) hx hb dL_act_255 hl (by decide) rfl (fun ls hl => ?_)
                          refine lv_bipush (pc := 257) (v := iv (-72)) hx hb dL_act_257 (by decide) ?_
                          refine c_iret (pc := 259) hC hQ hP hD hS (by decide) (by decide) dL_act_259 ?_
                          exact ⟨rfl, rfl⟩
                      · intro v9 w9 H locs hq hP hD hS
                        have hc9 := hq.1
                        exfalso
                        omega
                  · exact absurd c_147 (by decide)
                · exact absurd c_124 (by decide)
              · exact absurd c_100 (by decide)
            · exact absurd c_83 (by decide)
          · exact absurd c_61 (by decide)
        · exact absurd c_39 (by decide)
      · exact absurd c_26 (by decide)
    · exact absurd c_14 (by decide)
  · exact absurd c_1 (by decide)

abbrev rm_A_common_io : Room := { frames := 9, cells := 2, slots := 12, locals := 202 }
set_option maxRecDepth 100000 in
set_option maxHeartbeats 4000000 in
theorem A_common_io (l : Launch) (ε : EV) {x : Nat} {n : Nat → Int} {G : Nat → Nat → Int} {wd : va_W} (hst : l.stackTraces = false) (hH : HS ε x n G wd) (a : Int) (b : Int) (c : Int) (ra : rg a) (rb : rg b) (rc : rg c)  (h9 : ¬ ((0 ≤ a ∧ a < n 2) ∧ 0 ≤ b ∧ b < n 2)) : CTW l yL_act cL_act 6 (some .int) [(0, 249, 250, 61), (0, 249, 255, 63), (0, 249, 260, 65)] rm_A_common_io ε [.ref x, .int (iv 10), .int (iv a), .int (iv b), .int (iv c)] (wd) (fun v w9 => v = some (.int (iv (-71))) ∧ w9 = wd) NX := by
  refine CTW.intro (by decide +kernel) (Nat.le_of_ble_eq_true rfl) ?_
  intro p9 e9 s9 m9 a9 bl9 me9 c9 ls Q9 hC hE hP hD hl hQ
  have hx := hC.1
  have hb := hC.2.1
  have hK := hE.K
  have hS : WS ε s9.heap s9.heap [] := va_S.rf
  have hl : lv_has ls 6 [(0, .ref x), (1, .int (iv 10)), (2, .int (iv a)), (3, .int (iv b)), (4, .int (iv c))] := hl
  obtain ⟨H, hH⟩ : ∃ H, H = s9.heap := ⟨_, rfl⟩
  obtain ⟨locs, hlo⟩ : ∃ z : List Loc, z = [] := ⟨_, rfl⟩
  rw [← hH] at hP ⊢
  have hS : WS ε s9.heap H locs := by rw [hH, hlo]; exact hS
  rw [← hlo]
  clear hH hlo
  obtain ⟨fo, hob⟩ := hH.ob
  have hN := hH.inv.NB
  have hI := hH.inv
  refine lv_iload_n (pc := 0) hx hb dL_act_0 rfl (lv_at hl 1 rfl) ?_
  refine r_if_ne (pc := 1) (a := 10) hx hb dL_act_1 (tgt := 12) (by decide) ⟨by omega, by omega⟩ (fun c_1 => ?_) (fun c_1 => ?_)
  · have c_1_ := c_1
    refine lv_iload_n (pc := 12) hx hb dL_act_12 rfl (lv_at hl 1 rfl) ?_
    refine lv_iconst (pc := 13) (v := iv 1) hx hb dL_act_13 rfl ?_
    refine r_icmp_ne (pc := 14) (a := 10) (b := 1) hx hb dL_act_14 (tgt := 24) (by decide) ⟨by omega, by omega⟩ ⟨by omega, by omega⟩ (fun c_14 => ?_) (fun c_14 => ?_)
    · have c_14_ := c_14
      refine lv_iload_n (pc := 24) hx hb dL_act_24 rfl (lv_at hl 1 rfl) ?_
      refine lv_iconst (pc := 25) (v := iv 2) hx hb dL_act_25 rfl ?_
      refine r_icmp_ne (pc := 26) (a := 10) (b := 2) hx hb dL_act_26 (tgt := 37) (by decide) ⟨by omega, by omega⟩ ⟨by omega, by omega⟩ (fun c_26 => ?_) (fun c_26 => ?_)
      · have c_26_ := c_26
        refine lv_iload_n (pc := 37) hx hb dL_act_37 rfl (lv_at hl 1 rfl) ?_
        refine lv_iconst (pc := 38) (v := iv 3) hx hb dL_act_38 rfl ?_
        refine r_icmp_ne (pc := 39) (a := 10) (b := 3) hx hb dL_act_39 (tgt := 59) (by decide) ⟨by omega, by omega⟩ ⟨by omega, by omega⟩ (fun c_39 => ?_) (fun c_39 => ?_)
        · have c_39_ := c_39
          refine lv_iload_n (pc := 59) hx hb dL_act_59 rfl (lv_at hl 1 rfl) ?_
          refine lv_iconst (pc := 60) (v := iv 4) hx hb dL_act_60 rfl ?_
          refine r_icmp_ne (pc := 61) (a := 10) (b := 4) hx hb dL_act_61 (tgt := 81) (by decide) ⟨by omega, by omega⟩ ⟨by omega, by omega⟩ (fun c_61 => ?_) (fun c_61 => ?_)
          · have c_61_ := c_61
            refine lv_iload_n (pc := 81) hx hb dL_act_81 rfl (lv_at hl 1 rfl) ?_
            refine lv_iconst (pc := 82) (v := iv 5) hx hb dL_act_82 rfl ?_
            refine r_icmp_ne (pc := 83) (a := 10) (b := 5) hx hb dL_act_83 (tgt := 97) (by decide) ⟨by omega, by omega⟩ ⟨by omega, by omega⟩ (fun c_83 => ?_) (fun c_83 => ?_)
            · have c_83_ := c_83
              refine lv_iload_n (pc := 97) hx hb dL_act_97 rfl (lv_at hl 1 rfl) ?_
              refine lv_bipush (pc := 98) (v := iv 6) hx hb dL_act_98 (by decide) ?_
              refine r_icmp_ne (pc := 100) (a := 10) (b := 6) hx hb dL_act_100 (tgt := 121) (by decide) ⟨by omega, by omega⟩ ⟨by omega, by omega⟩ (fun c_100 => ?_) (fun c_100 => ?_)
              · have c_100_ := c_100
                refine lv_iload_n (pc := 121) hx hb dL_act_121 rfl (lv_at hl 1 rfl) ?_
                refine lv_bipush (pc := 122) (v := iv 7) hx hb dL_act_122 (by decide) ?_
                refine r_icmp_ne (pc := 124) (a := 10) (b := 7) hx hb dL_act_124 (tgt := 144) (by decide) ⟨by omega, by omega⟩ ⟨by omega, by omega⟩ (fun c_124 => ?_) (fun c_124 => ?_)
                · have c_124_ := c_124
                  refine lv_iload_n (pc := 144) hx hb dL_act_144 rfl (lv_at hl 1 rfl) ?_
                  refine lv_bipush (pc := 145) (v := iv 8) hx hb dL_act_145 (by decide) ?_
                  refine r_icmp_ne (pc := 147) (a := 10) (b := 8) hx hb dL_act_147 (tgt := 161) (by decide) ⟨by omega, by omega⟩ ⟨by omega, by omega⟩ (fun c_147 => ?_) (fun c_147 => ?_)
                  · have c_147_ := c_147
                    refine lv_iload_n (pc := 161) hx hb dL_act_161 rfl (lv_at hl 1 rfl) ?_
                    refine lv_bipush (pc := 162) (v := iv 9) hx hb dL_act_162 (by decide) ?_
                    refine r_icmp_ne (pc := 164) (a := 10) (b := 9) hx hb dL_act_164 (tgt := 186) (by decide) ⟨by omega, by omega⟩ ⟨by omega, by omega⟩ (fun c_164 => ?_) (fun c_164 => ?_)
                    · have c_164_ := c_164
                      refine lv_iload_n (pc := 186) hx hb dL_act_186 rfl (lv_at hl 1 rfl) ?_
                      refine lv_bipush (pc := 187) (v := iv 10) hx hb dL_act_187 (by decide) ?_
                      refine r_icmp_ne (pc := 189) (a := 10) (b := 10) hx hb dL_act_189 (tgt := 201) (by decide) ⟨by omega, by omega⟩ ⟨by omega, by omega⟩ (fun c_189 => ?_) (fun c_189 => ?_)
                      · exact absurd c_189 (by decide)
                      · have c_189_ := c_189
                        refine lv_aload_n (pc := 192) hx hb dL_act_192 rfl (lv_at hl 0 rfl) ?_
                        refine lv_iload_n (pc := 193) hx hb dL_act_193 rfl (lv_at hl 2 rfl) ?_
                        refine lv_iload_n (pc := 194) hx hb dL_act_194 rfl (lv_at hl 3 rfl) ?_
                        refine c_callV (pc := 195) (y := yX4_common) (As := [.int (iv a), .int (iv b)]) (rest := []) hC hE hP hD hS hl.1 (c_R_common l ε wd hst x n G hH.rd hN hI.2.1 hI.2.2.1 a ra b rb) m_12_7 m_12_8 m_12_9 m_0_2 m_12_10 hob rfl hd_yX4_common rfl ⟨⟨by decide, by decide⟩, by decide, by decide⟩ (Nat.le_of_ble_eq_true rfl) rfl dL_act_195 ?_ ?_
                        · intro E9 ce9 q9 w9 H locs hq hP hD hS e1 e2 e3
                          obtain ⟨hc9, rfl, hw9⟩ := hq
                          rw [hw9] at hP hD
                          refine c_catch (pc := 195) (E := nIOE) (pre := []) (xr := ⟨0, 249, 250, 61⟩) (suf := [⟨0, 249, 255, 63⟩, ⟨0, 249, 260, 65⟩]) hC hE (by decide +kernel) (by decide +kernel) rfl (fun _ h => absurd h List.not_mem_nil) (by decide) (by decide) m_4_21 e1 e2 e3 ?_
                          refine lv_astore (lv' := [(5, .ref q9), (0, .ref x), (1, .int (iv 10)), (2, .int (iv a)), (3, .int (iv b)), (4, .int (iv c))]) (pc := 250) hx hb dL_act_250 hl (by decide) rfl (fun ls hl => ?_)
                          refine lv_bipush (pc := 252) (v := iv (-71)) hx hb dL_act_252 (by decide) ?_
                          refine c_iret (pc := 254) hC hQ hP hD hS (by decide) (by decide) dL_act_254 ?_
                          exact ⟨rfl, rfl⟩
                        · intro v9 w9 H locs hq hP hD hS
                          have hc9 := hq.1
                          exfalso
                          omega
                    · exact absurd c_164 (by decide)
                  · exact absurd c_147 (by decide)
                · exact absurd c_124 (by decide)
              · exact absurd c_100 (by decide)
            · exact absurd c_83 (by decide)
          · exact absurd c_61 (by decide)
        · exact absurd c_39 (by decide)
      · exact absurd c_26 (by decide)
    · exact absurd c_14 (by decide)
  · exact absurd c_1 (by decide)

abbrev rm_A_print_ok : Room := { frames := 9, cells := 4, slots := 1100, locals := 421 }
set_option maxRecDepth 100000 in
set_option maxHeartbeats 4000000 in
theorem A_print_ok (l : Launch) (ε : EV) {x : Nat} {n : Nat → Int} {G : Nat → Nat → Int} {wd : va_W} (hst : l.stackTraces = false) (hH : HS ε x n G wd) (a : Int) (b : Int) (c : Int) (ra : rg a) (rb : rg b) (rc : rg c)  (h9 : n 4 < 10) : CTW l yL_act cL_act 6 (some .int) [(0, 249, 250, 61), (0, 249, 255, 63), (0, 249, 260, 65)] rm_A_print_ok ε [.ref x, .int (iv 11), .int (iv a), .int (iv b), .int (iv c)] (wd) (fun v w9 => v = some (.int (iv (n 4))) ∧ HS ε x (va_up n 4 (n 4 + 1)) (PUT (n 4) (SH G (n 4) 12) (mn (n 3) (n 3 - G 12 (n 4).toNat)).toNat) w9) NX := by
  refine CTW.intro (by decide +kernel) (Nat.le_of_ble_eq_true rfl) ?_
  intro p9 e9 s9 m9 a9 bl9 me9 c9 ls Q9 hC hE hP hD hl hQ
  have hx := hC.1
  have hb := hC.2.1
  have hK := hE.K
  have hS : WS ε s9.heap s9.heap [] := va_S.rf
  have hl : lv_has ls 6 [(0, .ref x), (1, .int (iv 11)), (2, .int (iv a)), (3, .int (iv b)), (4, .int (iv c))] := hl
  obtain ⟨H, hH⟩ : ∃ H, H = s9.heap := ⟨_, rfl⟩
  obtain ⟨locs, hlo⟩ : ∃ z : List Loc, z = [] := ⟨_, rfl⟩
  rw [← hH] at hP ⊢
  have hS : WS ε s9.heap H locs := by rw [hH, hlo]; exact hS
  rw [← hlo]
  clear hH hlo
  obtain ⟨fo, hob⟩ := hH.ob
  have hN := hH.inv.NB
  have hI := hH.inv
  refine lv_iload_n (pc := 0) hx hb dL_act_0 rfl (lv_at hl 1 rfl) ?_
  refine r_if_ne (pc := 1) (a := 11) hx hb dL_act_1 (tgt := 12) (by decide) ⟨by omega, by omega⟩ (fun c_1 => ?_) (fun c_1 => ?_)
  · have c_1_ := c_1
    refine lv_iload_n (pc := 12) hx hb dL_act_12 rfl (lv_at hl 1 rfl) ?_
    refine lv_iconst (pc := 13) (v := iv 1) hx hb dL_act_13 rfl ?_
    refine r_icmp_ne (pc := 14) (a := 11) (b := 1) hx hb dL_act_14 (tgt := 24) (by decide) ⟨by omega, by omega⟩ ⟨by omega, by omega⟩ (fun c_14 => ?_) (fun c_14 => ?_)
    · have c_14_ := c_14
      refine lv_iload_n (pc := 24) hx hb dL_act_24 rfl (lv_at hl 1 rfl) ?_
      refine lv_iconst (pc := 25) (v := iv 2) hx hb dL_act_25 rfl ?_
      refine r_icmp_ne (pc := 26) (a := 11) (b := 2) hx hb dL_act_26 (tgt := 37) (by decide) ⟨by omega, by omega⟩ ⟨by omega, by omega⟩ (fun c_26 => ?_) (fun c_26 => ?_)
      · have c_26_ := c_26
        refine lv_iload_n (pc := 37) hx hb dL_act_37 rfl (lv_at hl 1 rfl) ?_
        refine lv_iconst (pc := 38) (v := iv 3) hx hb dL_act_38 rfl ?_
        refine r_icmp_ne (pc := 39) (a := 11) (b := 3) hx hb dL_act_39 (tgt := 59) (by decide) ⟨by omega, by omega⟩ ⟨by omega, by omega⟩ (fun c_39 => ?_) (fun c_39 => ?_)
        · have c_39_ := c_39
          refine lv_iload_n (pc := 59) hx hb dL_act_59 rfl (lv_at hl 1 rfl) ?_
          refine lv_iconst (pc := 60) (v := iv 4) hx hb dL_act_60 rfl ?_
          refine r_icmp_ne (pc := 61) (a := 11) (b := 4) hx hb dL_act_61 (tgt := 81) (by decide) ⟨by omega, by omega⟩ ⟨by omega, by omega⟩ (fun c_61 => ?_) (fun c_61 => ?_)
          · have c_61_ := c_61
            refine lv_iload_n (pc := 81) hx hb dL_act_81 rfl (lv_at hl 1 rfl) ?_
            refine lv_iconst (pc := 82) (v := iv 5) hx hb dL_act_82 rfl ?_
            refine r_icmp_ne (pc := 83) (a := 11) (b := 5) hx hb dL_act_83 (tgt := 97) (by decide) ⟨by omega, by omega⟩ ⟨by omega, by omega⟩ (fun c_83 => ?_) (fun c_83 => ?_)
            · have c_83_ := c_83
              refine lv_iload_n (pc := 97) hx hb dL_act_97 rfl (lv_at hl 1 rfl) ?_
              refine lv_bipush (pc := 98) (v := iv 6) hx hb dL_act_98 (by decide) ?_
              refine r_icmp_ne (pc := 100) (a := 11) (b := 6) hx hb dL_act_100 (tgt := 121) (by decide) ⟨by omega, by omega⟩ ⟨by omega, by omega⟩ (fun c_100 => ?_) (fun c_100 => ?_)
              · have c_100_ := c_100
                refine lv_iload_n (pc := 121) hx hb dL_act_121 rfl (lv_at hl 1 rfl) ?_
                refine lv_bipush (pc := 122) (v := iv 7) hx hb dL_act_122 (by decide) ?_
                refine r_icmp_ne (pc := 124) (a := 11) (b := 7) hx hb dL_act_124 (tgt := 144) (by decide) ⟨by omega, by omega⟩ ⟨by omega, by omega⟩ (fun c_124 => ?_) (fun c_124 => ?_)
                · have c_124_ := c_124
                  refine lv_iload_n (pc := 144) hx hb dL_act_144 rfl (lv_at hl 1 rfl) ?_
                  refine lv_bipush (pc := 145) (v := iv 8) hx hb dL_act_145 (by decide) ?_
                  refine r_icmp_ne (pc := 147) (a := 11) (b := 8) hx hb dL_act_147 (tgt := 161) (by decide) ⟨by omega, by omega⟩ ⟨by omega, by omega⟩ (fun c_147 => ?_) (fun c_147 => ?_)
                  · have c_147_ := c_147
                    refine lv_iload_n (pc := 161) hx hb dL_act_161 rfl (lv_at hl 1 rfl) ?_
                    refine lv_bipush (pc := 162) (v := iv 9) hx hb dL_act_162 (by decide) ?_
                    refine r_icmp_ne (pc := 164) (a := 11) (b := 9) hx hb dL_act_164 (tgt := 186) (by decide) ⟨by omega, by omega⟩ ⟨by omega, by omega⟩ (fun c_164 => ?_) (fun c_164 => ?_)
                    · have c_164_ := c_164
                      refine lv_iload_n (pc := 186) hx hb dL_act_186 rfl (lv_at hl 1 rfl) ?_
                      refine lv_bipush (pc := 187) (v := iv 10) hx hb dL_act_187 (by decide) ?_
                      refine r_icmp_ne (pc := 189) (a := 11) (b := 10) hx hb dL_act_189 (tgt := 201) (by decide) ⟨by omega, by omega⟩ ⟨by omega, by omega⟩ (fun c_189 => ?_) (fun c_189 => ?_)
                      · have c_189_ := c_189
                        refine lv_iload_n (pc := 201) hx hb dL_act_201 rfl (lv_at hl 1 rfl) ?_
                        refine lv_bipush (pc := 202) (v := iv 11) hx hb dL_act_202 (by decide) ?_
                        refine r_icmp_ne (pc := 204) (a := 11) (b := 11) hx hb dL_act_204 (tgt := 214) (by decide) ⟨by omega, by omega⟩ ⟨by omega, by omega⟩ (fun c_204 => ?_) (fun c_204 => ?_)
                        · exact absurd c_204 (by decide)
                        · have c_204_ := c_204
                          refine lv_aload_n (pc := 207) hx hb dL_act_207 rfl (lv_at hl 0 rfl) ?_
                          refine c_callV (pc := 208) (y := yX4_print) (As := []) (rest := []) hC hE hP hD hS hl.1 (KX_print l ε hst hH ) m_12_11 m_12_12 m_12_13 m_0_2 m_12_14 hob rfl hd_yX4_print rfl ⟨⟨by decide, by decide⟩, by decide, by decide⟩ (Nat.le_of_ble_eq_true rfl) rfl dL_act_208 ?_ ?_
                          · intro E9 ce9 q9 w9 H locs hq hP hD hS e1 e2 e3
                            have hc9 := hq.1
                            exfalso
                            omega
                          · intro v9 w9 H locs hq hP hD hS
                            obtain ⟨hc9, hv_, hs_⟩ := hq
                            rw [hv_]
                            clear hv_
                            dsimp only [Option.toList, List.cons_append, List.nil_append]
                            refine lv_goto (pc := 211) (tgt := 249) hx hb dL_act_211 (by decide) ?_
                            refine c_iret (pc := 249) hC hQ hP hD hS (by decide) (by decide) dL_act_249 ?_
                            exact ⟨rfl, hs_⟩
                      · exact absurd c_189 (by decide)
                    · exact absurd c_164 (by decide)
                  · exact absurd c_147 (by decide)
                · exact absurd c_124 (by decide)
              · exact absurd c_100 (by decide)
            · exact absurd c_83 (by decide)
          · exact absurd c_61 (by decide)
        · exact absurd c_39 (by decide)
      · exact absurd c_26 (by decide)
    · exact absurd c_14 (by decide)
  · exact absurd c_1 (by decide)

abbrev rm_A_print_is : Room := { frames := 9, cells := 4, slots := 1100, locals := 421 }
set_option maxRecDepth 100000 in
set_option maxHeartbeats 4000000 in
theorem A_print_is (l : Launch) (ε : EV) {x : Nat} {n : Nat → Int} {G : Nat → Nat → Int} {wd : va_W} (hst : l.stackTraces = false) (hH : HS ε x n G wd) (a : Int) (b : Int) (c : Int) (ra : rg a) (rb : rg b) (rc : rg c)  (h9 : n 4 = 10) : CTW l yL_act cL_act 6 (some .int) [(0, 249, 250, 61), (0, 249, 255, 63), (0, 249, 260, 65)] rm_A_print_is ε [.ref x, .int (iv 11), .int (iv a), .int (iv b), .int (iv c)] (wd) (fun v w9 => v = some (.int (iv (-73))) ∧ w9 = wd) NX := by
  refine CTW.intro (by decide +kernel) (Nat.le_of_ble_eq_true rfl) ?_
  intro p9 e9 s9 m9 a9 bl9 me9 c9 ls Q9 hC hE hP hD hl hQ
  have hx := hC.1
  have hb := hC.2.1
  have hK := hE.K
  have hS : WS ε s9.heap s9.heap [] := va_S.rf
  have hl : lv_has ls 6 [(0, .ref x), (1, .int (iv 11)), (2, .int (iv a)), (3, .int (iv b)), (4, .int (iv c))] := hl
  obtain ⟨H, hH⟩ : ∃ H, H = s9.heap := ⟨_, rfl⟩
  obtain ⟨locs, hlo⟩ : ∃ z : List Loc, z = [] := ⟨_, rfl⟩
  rw [← hH] at hP ⊢
  have hS : WS ε s9.heap H locs := by rw [hH, hlo]; exact hS
  rw [← hlo]
  clear hH hlo
  obtain ⟨fo, hob⟩ := hH.ob
  have hN := hH.inv.NB
  have hI := hH.inv
  refine lv_iload_n (pc := 0) hx hb dL_act_0 rfl (lv_at hl 1 rfl) ?_
  refine r_if_ne (pc := 1) (a := 11) hx hb dL_act_1 (tgt := 12) (by decide) ⟨by omega, by omega⟩ (fun c_1 => ?_) (fun c_1 => ?_)
  · have c_1_ := c_1
    refine lv_iload_n (pc := 12) hx hb dL_act_12 rfl (lv_at hl 1 rfl) ?_
    refine lv_iconst (pc := 13) (v := iv 1) hx hb dL_act_13 rfl ?_
    refine r_icmp_ne (pc := 14) (a := 11) (b := 1) hx hb dL_act_14 (tgt := 24) (by decide) ⟨by omega, by omega⟩ ⟨by omega, by omega⟩ (fun c_14 => ?_) (fun c_14 => ?_)
    · have c_14_ := c_14
      refine lv_iload_n (pc := 24) hx hb dL_act_24 rfl (lv_at hl 1 rfl) ?_
      refine lv_iconst (pc := 25) (v := iv 2) hx hb dL_act_25 rfl ?_
      refine r_icmp_ne (pc := 26) (a := 11) (b := 2) hx hb dL_act_26 (tgt := 37) (by decide) ⟨by omega, by omega⟩ ⟨by omega, by omega⟩ (fun c_26 => ?_) (fun c_26 => ?_)
      · have c_26_ := c_26
        refine lv_iload_n (pc := 37) hx hb dL_act_37 rfl (lv_at hl 1 rfl) ?_
        refine lv_iconst (pc := 38) (v := iv 3) hx hb dL_act_38 rfl ?_
        refine r_icmp_ne (pc := 39) (a := 11) (b := 3) hx hb dL_act_39 (tgt := 59) (by decide) ⟨by omega, by omega⟩ ⟨by omega, by omega⟩ (fun c_39 => ?_) (fun c_39 => ?_)
        · have c_39_ := c_39
          refine lv_iload_n (pc := 59) hx hb dL_act_59 rfl (lv_at hl 1 rfl) ?_
          refine lv_iconst (pc := 60) (v := iv 4) hx hb dL_act_60 rfl ?_
          refine r_icmp_ne (pc := 61) (a := 11) (b := 4) hx hb dL_act_61 (tgt := 81) (by decide) ⟨by omega, by omega⟩ ⟨by omega, by omega⟩ (fun c_61 => ?_) (fun c_61 => ?_)
          · have c_61_ := c_61
            refine lv_iload_n (pc := 81) hx hb dL_act_81 rfl (lv_at hl 1 rfl) ?_
            refine lv_iconst (pc := 82) (v := iv 5) hx hb dL_act_82 rfl ?_
            refine r_icmp_ne (pc := 83) (a := 11) (b := 5) hx hb dL_act_83 (tgt := 97) (by decide) ⟨by omega, by omega⟩ ⟨by omega, by omega⟩ (fun c_83 => ?_) (fun c_83 => ?_)
            · have c_83_ := c_83
              refine lv_iload_n (pc := 97) hx hb dL_act_97 rfl (lv_at hl 1 rfl) ?_
              refine lv_bipush (pc := 98) (v := iv 6) hx hb dL_act_98 (by decide) ?_
              refine r_icmp_ne (pc := 100) (a := 11) (b := 6) hx hb dL_act_100 (tgt := 121) (by decide) ⟨by omega, by omega⟩ ⟨by omega, by omega⟩ (fun c_100 => ?_) (fun c_100 => ?_)
              · have c_100_ := c_100
                refine lv_iload_n (pc := 121) hx hb dL_act_121 rfl (lv_at hl 1 rfl) ?_
                refine lv_bipush (pc := 122) (v := iv 7) hx hb dL_act_122 (by decide) ?_
                refine r_icmp_ne (pc := 124) (a := 11) (b := 7) hx hb dL_act_124 (tgt := 144) (by decide) ⟨by omega, by omega⟩ ⟨by omega, by omega⟩ (fun c_124 => ?_) (fun c_124 => ?_)
                · have c_124_ := c_124
                  refine lv_iload_n (pc := 144) hx hb dL_act_144 rfl (lv_at hl 1 rfl) ?_
                  refine lv_bipush (pc := 145) (v := iv 8) hx hb dL_act_145 (by decide) ?_
                  refine r_icmp_ne (pc := 147) (a := 11) (b := 8) hx hb dL_act_147 (tgt := 161) (by decide) ⟨by omega, by omega⟩ ⟨by omega, by omega⟩ (fun c_147 => ?_) (fun c_147 => ?_)
                  · have c_147_ := c_147
                    refine lv_iload_n (pc := 161) hx hb dL_act_161 rfl (lv_at hl 1 rfl) ?_
                    refine lv_bipush (pc := 162) (v := iv 9) hx hb dL_act_162 (by decide) ?_
                    refine r_icmp_ne (pc := 164) (a := 11) (b := 9) hx hb dL_act_164 (tgt := 186) (by decide) ⟨by omega, by omega⟩ ⟨by omega, by omega⟩ (fun c_164 => ?_) (fun c_164 => ?_)
                    · have c_164_ := c_164
                      refine lv_iload_n (pc := 186) hx hb dL_act_186 rfl (lv_at hl 1 rfl) ?_
                      refine lv_bipush (pc := 187) (v := iv 10) hx hb dL_act_187 (by decide) ?_
                      refine r_icmp_ne (pc := 189) (a := 11) (b := 10) hx hb dL_act_189 (tgt := 201) (by decide) ⟨by omega, by omega⟩ ⟨by omega, by omega⟩ (fun c_189 => ?_) (fun c_189 => ?_)
                      · have c_189_ := c_189
                        refine lv_iload_n (pc := 201) hx hb dL_act_201 rfl (lv_at hl 1 rfl) ?_
                        refine lv_bipush (pc := 202) (v := iv 11) hx hb dL_act_202 (by decide) ?_
                        refine r_icmp_ne (pc := 204) (a := 11) (b := 11) hx hb dL_act_204 (tgt := 214) (by decide) ⟨by omega, by omega⟩ ⟨by omega, by omega⟩ (fun c_204 => ?_) (fun c_204 => ?_)
                        · exact absurd c_204 (by decide)
                        · have c_204_ := c_204
                          refine lv_aload_n (pc := 207) hx hb dL_act_207 rfl (lv_at hl 0 rfl) ?_
                          refine c_callV (pc := 208) (y := yX4_print) (As := []) (rest := []) hC hE hP hD hS hl.1 (KX_print l ε hst hH ) m_12_11 m_12_12 m_12_13 m_0_2 m_12_14 hob rfl hd_yX4_print rfl ⟨⟨by decide, by decide⟩, by decide, by decide⟩ (Nat.le_of_ble_eq_true rfl) rfl dL_act_208 ?_ ?_
                          · intro E9 ce9 q9 w9 H locs hq hP hD hS e1 e2 e3
                            obtain ⟨hc9, rfl, hw9⟩ := hq
                            rw [hw9] at hP hD
                            refine c_catch (pc := 208) (E := nISE) (pre := [⟨0, 249, 250, 61⟩, ⟨0, 249, 255, 63⟩]) (xr := ⟨0, 249, 260, 65⟩) (suf := []) hC hE (by decide +kernel) (by decide +kernel) rfl (List.forall_mem_cons.mpr ⟨⟨by decide, nIOE, by decide +kernel, by decide +kernel, m_4_21⟩, List.forall_mem_cons.mpr ⟨⟨by decide, nIAE, by decide +kernel, by decide +kernel, m_4_22⟩, fun _ h => absurd h List.not_mem_nil⟩⟩) (by decide) (by decide) m_4_23 e1 e2 e3 ?_
                            refine lv_astore (lv' := [(5, .ref q9), (0, .ref x), (1, .int (iv 11)), (2, .int (iv a)), (3, .int (iv b)), (4, .int (iv c))]) (pc := 260) hx hb dL_act_260 hl (by decide) rfl (fun ls hl => ?_)
                            refine lv_bipush (pc := 262) (v := iv (-73)) hx hb dL_act_262 (by decide) ?_
                            refine c_iret (pc := 264) hC hQ hP hD hS (by decide) (by decide) dL_act_264 ?_
                            exact ⟨rfl, rfl⟩
                          · intro v9 w9 H locs hq hP hD hS
                            have hc9 := hq.1
                            exfalso
                            omega
                      · exact absurd c_189 (by decide)
                    · exact absurd c_164 (by decide)
                  · exact absurd c_147 (by decide)
                · exact absurd c_124 (by decide)
              · exact absurd c_100 (by decide)
            · exact absurd c_83 (by decide)
          · exact absurd c_61 (by decide)
        · exact absurd c_39 (by decide)
      · exact absurd c_26 (by decide)
    · exact absurd c_14 (by decide)
  · exact absurd c_1 (by decide)

abbrev rm_A_correct_io : Room := { frames := 9, cells := 3, slots := 20, locals := 284 }
set_option maxRecDepth 100000 in
set_option maxHeartbeats 4000000 in
theorem A_correct_io (l : Launch) (ε : EV) {x : Nat} {n : Nat → Int} {G : Nat → Nat → Int} {wd : va_W} (hst : l.stackTraces = false) (hH : HS ε x n G wd) (a : Int) (b : Int) (c : Int) (ra : rg a) (rb : rg b) (rc : rg c)  (h9 : ¬ (0 ≤ a ∧ a < n 4)) : CTW l yL_act cL_act 6 (some .int) [(0, 249, 250, 61), (0, 249, 255, 63), (0, 249, 260, 65)] rm_A_correct_io ε [.ref x, .int (iv 12), .int (iv a), .int (iv b), .int (iv c)] (wd) (fun v w9 => v = some (.int (iv (-71))) ∧ w9 = wd) NX := by
  refine CTW.intro (by decide +kernel) (Nat.le_of_ble_eq_true rfl) ?_
  intro p9 e9 s9 m9 a9 bl9 me9 c9 ls Q9 hC hE hP hD hl hQ
  have hx := hC.1
  have hb := hC.2.1
  have hK := hE.K
  have hS : WS ε s9.heap s9.heap [] := va_S.rf
  have hl : lv_has ls 6 [(0, .ref x), (1, .int (iv 12)), (2, .int (iv a)), (3, .int (iv b)), (4, .int (iv c))] := hl
  obtain ⟨H, hH⟩ : ∃ H, H = s9.heap := ⟨_, rfl⟩
  obtain ⟨locs, hlo⟩ : ∃ z : List Loc, z = [] := ⟨_, rfl⟩
  rw [← hH] at hP ⊢
  have hS : WS ε s9.heap H locs := by rw [hH, hlo]; exact hS
  rw [← hlo]
  clear hH hlo
  obtain ⟨fo, hob⟩ := hH.ob
  have hN := hH.inv.NB
  have hI := hH.inv
  refine lv_iload_n (pc := 0) hx hb dL_act_0 rfl (lv_at hl 1 rfl) ?_
  refine r_if_ne (pc := 1) (a := 12) hx hb dL_act_1 (tgt := 12) (by decide) ⟨by omega, by omega⟩ (fun c_1 => ?_) (fun c_1 => ?_)
  · have c_1_ := c_1
    refine lv_iload_n (pc := 12) hx hb dL_act_12 rfl (lv_at hl 1 rfl) ?_
    refine lv_iconst (pc := 13) (v := iv 1) hx hb dL_act_13 rfl ?_
    refine r_icmp_ne (pc := 14) (a := 12) (b := 1) hx hb dL_act_14 (tgt := 24) (by decide) ⟨by omega, by omega⟩ ⟨by omega, by omega⟩ (fun c_14 => ?_) (fun c_14 => ?_)
    · have c_14_ := c_14
      refine lv_iload_n (pc := 24) hx hb dL_act_24 rfl (lv_at hl 1 rfl) ?_
      refine lv_iconst (pc := 25) (v := iv 2) hx hb dL_act_25 rfl ?_
      refine r_icmp_ne (pc := 26) (a := 12) (b := 2) hx hb dL_act_26 (tgt := 37) (by decide) ⟨by omega, by omega⟩ ⟨by omega, by omega⟩ (fun c_26 => ?_) (fun c_26 => ?_)
      · have c_26_ := c_26
        refine lv_iload_n (pc := 37) hx hb dL_act_37 rfl (lv_at hl 1 rfl) ?_
        refine lv_iconst (pc := 38) (v := iv 3) hx hb dL_act_38 rfl ?_
        refine r_icmp_ne (pc := 39) (a := 12) (b := 3) hx hb dL_act_39 (tgt := 59) (by decide) ⟨by omega, by omega⟩ ⟨by omega, by omega⟩ (fun c_39 => ?_) (fun c_39 => ?_)
        · have c_39_ := c_39
          refine lv_iload_n (pc := 59) hx hb dL_act_59 rfl (lv_at hl 1 rfl) ?_
          refine lv_iconst (pc := 60) (v := iv 4) hx hb dL_act_60 rfl ?_
          refine r_icmp_ne (pc := 61) (a := 12) (b := 4) hx hb dL_act_61 (tgt := 81) (by decide) ⟨by omega, by omega⟩ ⟨by omega, by omega⟩ (fun c_61 => ?_) (fun c_61 => ?_)
          · have c_61_ := c_61
            refine lv_iload_n (pc := 81) hx hb dL_act_81 rfl (lv_at hl 1 rfl) ?_
            refine lv_iconst (pc := 82) (v := iv 5) hx hb dL_act_82 rfl ?_
            refine r_icmp_ne (pc := 83) (a := 12) (b := 5) hx hb dL_act_83 (tgt := 97) (by decide) ⟨by omega, by omega⟩ ⟨by omega, by omega⟩ (fun c_83 => ?_) (fun c_83 => ?_)
            · have c_83_ := c_83
              refine lv_iload_n (pc := 97) hx hb dL_act_97 rfl (lv_at hl 1 rfl) ?_
              refine lv_bipush (pc := 98) (v := iv 6) hx hb dL_act_98 (by decide) ?_
              refine r_icmp_ne (pc := 100) (a := 12) (b := 6) hx hb dL_act_100 (tgt := 121) (by decide) ⟨by omega, by omega⟩ ⟨by omega, by omega⟩ (fun c_100 => ?_) (fun c_100 => ?_)
              · have c_100_ := c_100
                refine lv_iload_n (pc := 121) hx hb dL_act_121 rfl (lv_at hl 1 rfl) ?_
                refine lv_bipush (pc := 122) (v := iv 7) hx hb dL_act_122 (by decide) ?_
                refine r_icmp_ne (pc := 124) (a := 12) (b := 7) hx hb dL_act_124 (tgt := 144) (by decide) ⟨by omega, by omega⟩ ⟨by omega, by omega⟩ (fun c_124 => ?_) (fun c_124 => ?_)
                · have c_124_ := c_124
                  refine lv_iload_n (pc := 144) hx hb dL_act_144 rfl (lv_at hl 1 rfl) ?_
                  refine lv_bipush (pc := 145) (v := iv 8) hx hb dL_act_145 (by decide) ?_
                  refine r_icmp_ne (pc := 147) (a := 12) (b := 8) hx hb dL_act_147 (tgt := 161) (by decide) ⟨by omega, by omega⟩ ⟨by omega, by omega⟩ (fun c_147 => ?_) (fun c_147 => ?_)
                  · have c_147_ := c_147
                    refine lv_iload_n (pc := 161) hx hb dL_act_161 rfl (lv_at hl 1 rfl) ?_
                    refine lv_bipush (pc := 162) (v := iv 9) hx hb dL_act_162 (by decide) ?_
                    refine r_icmp_ne (pc := 164) (a := 12) (b := 9) hx hb dL_act_164 (tgt := 186) (by decide) ⟨by omega, by omega⟩ ⟨by omega, by omega⟩ (fun c_164 => ?_) (fun c_164 => ?_)
                    · have c_164_ := c_164
                      refine lv_iload_n (pc := 186) hx hb dL_act_186 rfl (lv_at hl 1 rfl) ?_
                      refine lv_bipush (pc := 187) (v := iv 10) hx hb dL_act_187 (by decide) ?_
                      refine r_icmp_ne (pc := 189) (a := 12) (b := 10) hx hb dL_act_189 (tgt := 201) (by decide) ⟨by omega, by omega⟩ ⟨by omega, by omega⟩ (fun c_189 => ?_) (fun c_189 => ?_)
                      · have c_189_ := c_189
                        refine lv_iload_n (pc := 201) hx hb dL_act_201 rfl (lv_at hl 1 rfl) ?_
                        refine lv_bipush (pc := 202) (v := iv 11) hx hb dL_act_202 (by decide) ?_
                        refine r_icmp_ne (pc := 204) (a := 12) (b := 11) hx hb dL_act_204 (tgt := 214) (by decide) ⟨by omega, by omega⟩ ⟨by omega, by omega⟩ (fun c_204 => ?_) (fun c_204 => ?_)
                        · have c_204_ := c_204
                          refine lv_iload_n (pc := 214) hx hb dL_act_214 rfl (lv_at hl 1 rfl) ?_
                          refine lv_bipush (pc := 215) (v := iv 12) hx hb dL_act_215 (by decide) ?_
                          refine r_icmp_ne (pc := 217) (a := 12) (b := 12) hx hb dL_act_217 (tgt := 229) (by decide) ⟨by omega, by omega⟩ ⟨by omega, by omega⟩ (fun c_217 => ?_) (fun c_217 => ?_)
                          · exact absurd c_217 (by decide)
                          · have c_217_ := c_217
                            refine lv_aload_n (pc := 220) hx hb dL_act_220 rfl (lv_at hl 0 rfl) ?_
                            refine lv_iload_n (pc := 221) hx hb dL_act_221 rfl (lv_at hl 2 rfl) ?_
                            refine lv_iload_n (pc := 222) hx hb dL_act_222 rfl (lv_at hl 3 rfl) ?_
                            refine c_callV (pc := 223) (y := yX4_correct) (As := [.int (iv a), .int (iv b)]) (rest := []) hC hE hP hD hS hl.1 (KX_correct l ε hst hH a b ra rb) m_13_15 m_13_16 m_13_17 m_0_2 m_13_18 hob rfl hd_yX4_correct rfl ⟨⟨by decide, by decide⟩, by decide, by decide⟩ (Nat.le_of_ble_eq_true rfl) rfl dL_act_223 ?_ ?_
                            · intro E9 ce9 q9 w9 H locs hq hP hD hS e1 e2 e3
                              rcases hq with hq | hq
                              · obtain ⟨hc9, rfl, hw9⟩ := hq
                                rw [hw9] at hP hD
                                refine c_catch (pc := 223) (E := nIOE) (pre := []) (xr := ⟨0, 249, 250, 61⟩) (suf := [⟨0, 249, 255, 63⟩, ⟨0, 249, 260, 65⟩]) hC hE (by decide +kernel) (by decide +kernel) rfl (fun _ h => absurd h List.not_mem_nil) (by decide) (by decide) m_4_21 e1 e2 e3 ?_
                                refine lv_astore (lv' := [(5, .ref q9), (0, .ref x), (1, .int (iv 12)), (2, .int (iv a)), (3, .int (iv b)), (4, .int (iv c))]) (pc := 250) hx hb dL_act_250 hl (by decide) rfl (fun ls hl => ?_)
                                refine lv_bipush (pc := 252) (v := iv (-71)) hx hb dL_act_252 (by decide) ?_
                                refine c_iret (pc := 254) hC hQ hP hD hS (by decide) (by decide) dL_act_254 ?_
                                exact ⟨rfl, rfl⟩
                              · have hc9 := hq.1
                                exfalso
                                omega
                            · intro v9 w9 H locs hq hP hD hS
                              have hc9 := hq.1
                              exfalso
                              omega
                        · exact absurd c_204 (by decide)
                      · exact absurd c_189 (by decide)
                    · exact absurd c_164 (by decide)
                  · exact absurd c_147 (by decide)
                · exact absurd c_124 (by decide)
              · exact absurd c_100 (by decide)
            · exact absurd c_83 (by decide)
          · exact absurd c_61 (by decide)
        · exact absurd c_39 (by decide)
      · exact absurd c_26 (by decide)
    · exact absurd c_14 (by decide)
  · exact absurd c_1 (by decide)

abbrev rm_A_correct_ia : Room := { frames := 9, cells := 3, slots := 20, locals := 284 }
set_option maxRecDepth 100000 in
set_option maxHeartbeats 4000000 in
theorem A_correct_ia (l : Launch) (ε : EV) {x : Nat} {n : Nat → Int} {G : Nat → Nat → Int} {wd : va_W} (hst : l.stackTraces = false) (hH : HS ε x n G wd) (a : Int) (b : Int) (c : Int) (ra : rg a) (rb : rg b) (rc : rg c)  (h9 : (0 ≤ a ∧ a < n 4) ∧ ¬ (1 ≤ b ∧ b ≤ 100)) : CTW l yL_act cL_act 6 (some .int) [(0, 249, 250, 61), (0, 249, 255, 63), (0, 249, 260, 65)] rm_A_correct_ia ε [.ref x, .int (iv 12), .int (iv a), .int (iv b), .int (iv c)] (wd) (fun v w9 => v = some (.int (iv (-72))) ∧ w9 = wd) NX := by
  refine CTW.intro (by decide +kernel) (Nat.le_of_ble_eq_true rfl) ?_
  intro p9 e9 s9 m9 a9 bl9 me9 c9 ls Q9 hC hE hP hD hl hQ
  have hx := hC.1
  have hb := hC.2.1
  have hK := hE.K
  have hS : WS ε s9.heap s9.heap [] := va_S.rf
  have hl : lv_has ls 6 [(0, .ref x), (1, .int (iv 12)), (2, .int (iv a)), (3, .int (iv b)), (4, .int (iv c))] := hl
  obtain ⟨H, hH⟩ : ∃ H, H = s9.heap := ⟨_, rfl⟩
  obtain ⟨locs, hlo⟩ : ∃ z : List Loc, z = [] := ⟨_, rfl⟩
  rw [← hH] at hP ⊢
  have hS : WS ε s9.heap H locs := by rw [hH, hlo]; exact hS
  rw [← hlo]
  clear hH hlo
  obtain ⟨fo, hob⟩ := hH.ob
  have hN := hH.inv.NB
  have hI := hH.inv
  refine lv_iload_n (pc := 0) hx hb dL_act_0 rfl (lv_at hl 1 rfl) ?_
  refine r_if_ne (pc := 1) (a := 12) hx hb dL_act_1 (tgt := 12) (by decide) ⟨by omega, by omega⟩ (fun c_1 => ?_) (fun c_1 => ?_)
  · have c_1_ := c_1
    refine lv_iload_n (pc := 12) hx hb dL_act_12 rfl (lv_at hl 1 rfl) ?_
    refine lv_iconst (pc := 13) (v := iv 1) hx hb dL_act_13 rfl ?_
    refine r_icmp_ne (pc := 14) (a := 12) (b := 1) hx hb dL_act_14 (tgt := 24) (by decide) ⟨by omega, by omega⟩ ⟨by omega, by omega⟩ (fun c_14 => ?_) (fun c_14 => ?_)
    · have c_14_ := c_14
      refine lv_iload_n (pc := 24) hx hb dL_act_24 rfl (lv_at hl 1 rfl) ?_
      refine lv_iconst (pc := 25) (v := iv 2) hx hb dL_act_25 rfl ?_
      refine r_icmp_ne (pc := 26) (a := 12) (b := 2) hx hb dL_act_26 (tgt := 37) (by decide) ⟨by omega, by omega⟩ ⟨by omega, by omega⟩ (fun c_26 => ?_) (fun c_26 => ?_)
      · have c_26_ := c_26
        refine lv_iload_n (pc := 37) hx hb dL_act_37 rfl (lv_at hl 1 rfl) ?_
        refine lv_iconst (pc := 38) (v := iv 3) hx hb dL_act_38 rfl ?_
        refine r_icmp_ne (pc := 39) (a := 12) (b := 3) hx hb dL_act_39 (tgt := 59) (by decide) ⟨by omega, by omega⟩ ⟨by omega, by omega⟩ (fun c_39 => ?_) (fun c_39 => ?_)
        · have c_39_ := c_39
          refine lv_iload_n (pc := 59) hx hb dL_act_59 rfl (lv_at hl 1 rfl) ?_
          refine lv_iconst (pc := 60) (v := iv 4) hx hb dL_act_60 rfl ?_
          refine r_icmp_ne (pc := 61) (a := 12) (b := 4) hx hb dL_act_61 (tgt := 81) (by decide) ⟨by omega, by omega⟩ ⟨by omega, by omega⟩ (fun c_61 => ?_) (fun c_61 => ?_)
          · have c_61_ := c_61
            refine lv_iload_n (pc := 81) hx hb dL_act_81 rfl (lv_at hl 1 rfl) ?_
            refine lv_iconst (pc := 82) (v := iv 5) hx hb dL_act_82 rfl ?_
            refine r_icmp_ne (pc := 83) (a := 12) (b := 5) hx hb dL_act_83 (tgt := 97) (by decide) ⟨by omega, by omega⟩ ⟨by omega, by omega⟩ (fun c_83 => ?_) (fun c_83 => ?_)
            · have c_83_ := c_83
              refine lv_iload_n (pc := 97) hx hb dL_act_97 rfl (lv_at hl 1 rfl) ?_
              refine lv_bipush (pc := 98) (v := iv 6) hx hb dL_act_98 (by decide) ?_
              refine r_icmp_ne (pc := 100) (a := 12) (b := 6) hx hb dL_act_100 (tgt := 121) (by decide) ⟨by omega, by omega⟩ ⟨by omega, by omega⟩ (fun c_100 => ?_) (fun c_100 => ?_)
              · have c_100_ := c_100
                refine lv_iload_n (pc := 121) hx hb dL_act_121 rfl (lv_at hl 1 rfl) ?_
                refine lv_bipush (pc := 122) (v := iv 7) hx hb dL_act_122 (by decide) ?_
                refine r_icmp_ne (pc := 124) (a := 12) (b := 7) hx hb dL_act_124 (tgt := 144) (by decide) ⟨by omega, by omega⟩ ⟨by omega, by omega⟩ (fun c_124 => ?_) (fun c_124 => ?_)
                · have c_124_ := c_124
                  refine lv_iload_n (pc := 144) hx hb dL_act_144 rfl (lv_at hl 1 rfl) ?_
                  refine lv_bipush (pc := 145) (v := iv 8) hx hb dL_act_145 (by decide) ?_
                  refine r_icmp_ne (pc := 147) (a := 12) (b := 8) hx hb dL_act_147 (tgt := 161) (by decide) ⟨by omega, by omega⟩ ⟨by omega, by omega⟩ (fun c_147 => ?_) (fun c_147 => ?_)
                  · have c_147_ := c_147
                    refine lv_iload_n (pc := 161) hx hb dL_act_161 rfl (lv_at hl 1 rfl) ?_
                    refine lv_bipush (pc := 162) (v := iv 9) hx hb dL_act_162 (by decide) ?_
                    refine r_icmp_ne (pc := 164) (a := 12) (b := 9) hx hb dL_act_164 (tgt := 186) (by decide) ⟨by omega, by omega⟩ ⟨by omega, by omega⟩ (fun c_164 => ?_) (fun c_164 => ?_)
                    · have c_164_ := c_164
                      refine lv_iload_n (pc := 186) hx hb dL_act_186 rfl (lv_at hl 1 rfl) ?_
                      refine lv_bipush (pc := 187) (v := iv 10) hx hb dL_act_187 (by decide) ?_
                      refine r_icmp_ne (pc := 189) (a := 12) (b := 10) hx hb dL_act_189 (tgt := 201) (by decide) ⟨by omega, by omega⟩ ⟨by omega, by omega⟩ (fun c_189 => ?_) (fun c_189 => ?_)
                      · have c_189_ := c_189
                        refine lv_iload_n (pc := 201) hx hb dL_act_201 rfl (lv_at hl 1 rfl) ?_
                        refine lv_bipush (pc := 202) (v := iv 11) hx hb dL_act_202 (by decide) ?_
                        refine r_icmp_ne (pc := 204) (a := 12) (b := 11) hx hb dL_act_204 (tgt := 214) (by decide) ⟨by omega, by omega⟩ ⟨by omega, by omega⟩ (fun c_204 => ?_) (fun c_204 => ?_)
                        · have c_204_ := c_204
                          refine lv_iload_n (pc := 214) hx hb dL_act_214 rfl (lv_at hl 1 rfl) ?_
                          refine lv_bipush (pc := 215) (v := iv 12) hx hb dL_act_215 (by decide) ?_
                          refine r_icmp_ne (pc := 217) (a := 12) (b := 12) hx hb dL_act_217 (tgt := 229) (by decide) ⟨by omega, by omega⟩ ⟨by omega, by omega⟩ (fun c_217 => ?_) (fun c_217 => ?_)
                          · exact absurd c_217 (by decide)
                          · have c_217_ := c_217
                            refine lv_aload_n (pc := 220) hx hb dL_act_220 rfl (lv_at hl 0 rfl) ?_
                            refine lv_iload_n (pc := 221) hx hb dL_act_221 rfl (lv_at hl 2 rfl) ?_
                            refine lv_iload_n (pc := 222) hx hb dL_act_222 rfl (lv_at hl 3 rfl) ?_
                            refine c_callV (pc := 223) (y := yX4_correct) (As := [.int (iv a), .int (iv b)]) (rest := []) hC hE hP hD hS hl.1 (KX_correct l ε hst hH a b ra rb) m_13_15 m_13_16 m_13_17 m_0_2 m_13_18 hob rfl hd_yX4_correct rfl ⟨⟨by decide, by decide⟩, by decide, by decide⟩ (Nat.le_of_ble_eq_true rfl) rfl dL_act_223 ?_ ?_
                            · intro E9 ce9 q9 w9 H locs hq hP hD hS e1 e2 e3
                              rcases hq with hq | hq
                              · have hc9 := hq.1
                                exfalso
                                omega
                              · obtain ⟨hc9, rfl, hw9⟩ := hq
                                rw [hw9] at hP hD
                                refine c_catch (pc := 223) (E := nIAE) (pre := [⟨0, 249, 250, 61⟩]) (xr := ⟨0, 249, 255, 63⟩) (suf := [⟨0, 249, 260, 65⟩]) hC hE (by decide +kernel) (by decide +kernel) rfl (List.forall_mem_cons.mpr ⟨⟨by decide, nIOE, by decide +kernel, by decide +kernel, m_4_21⟩, fun _ h => absurd h List.not_mem_nil⟩) (by decide) (by decide) m_4_22 e1 e2 e3 ?_
                                refine lv_astore (lv' := [(5, .ref q9), (0, .ref x), (1, .int (iv 12)), (2, .int (iv a)), (3, .int (iv b)), (4, .int (iv c))]) (pc := 255) hx hb dL_act_255 hl (by decide) rfl (fun ls hl => ?_)
                                refine lv_bipush (pc := 257) (v := iv (-72)) hx hb dL_act_257 (by decide) ?_
                                refine c_iret (pc := 259) hC hQ hP hD hS (by decide) (by decide) dL_act_259 ?_
                                exact ⟨rfl, rfl⟩
                            · intro v9 w9 H locs hq hP hD hS
                              have hc9 := hq.1
                              exfalso
                              omega
                        · exact absurd c_204 (by decide)
                      · exact absurd c_189 (by decide)
                    · exact absurd c_164 (by decide)
                  · exact absurd c_147 (by decide)
                · exact absurd c_124 (by decide)
              · exact absurd c_100 (by decide)
            · exact absurd c_83 (by decide)
          · exact absurd c_61 (by decide)
        · exact absurd c_39 (by decide)
      · exact absurd c_26 (by decide)
    · exact absurd c_14 (by decide)
  · exact absurd c_1 (by decide)

abbrev rm_A_behind_io : Room := { frames := 9, cells := 1, slots := 6, locals := 201 }
set_option maxRecDepth 100000 in
set_option maxHeartbeats 4000000 in
theorem A_behind_io (l : Launch) (ε : EV) {x : Nat} {n : Nat → Int} {G : Nat → Nat → Int} {wd : va_W} (hst : l.stackTraces = false) (hH : HS ε x n G wd) (a : Int) (b : Int) (c : Int) (ra : rg a) (rb : rg b) (rc : rg c)  (h9 : ¬ (0 ≤ a ∧ a < n 4)) : CTW l yL_act cL_act 6 (some .int) [(0, 249, 250, 61), (0, 249, 255, 63), (0, 249, 260, 65)] rm_A_behind_io ε [.ref x, .int (iv 13), .int (iv a), .int (iv b), .int (iv c)] (wd) (fun v w9 => v = some (.int (iv (-71))) ∧ w9 = wd) NX := by
  refine CTW.intro (by decide +kernel) (Nat.le_of_ble_eq_true rfl) ?_
  intro p9 e9 s9 m9 a9 bl9 me9 c9 ls Q9 hC hE hP hD hl hQ
  have hx := hC.1
  have hb := hC.2.1
  have hK := hE.K
  have hS : WS ε s9.heap s9.heap [] := va_S.rf
  have hl : lv_has ls 6 [(0, .ref x), (1, .int (iv 13)), (2, .int (iv a)), (3, .int (iv b)), (4, .int (iv c))] := hl
  obtain ⟨H, hH⟩ : ∃ H, H = s9.heap := ⟨_, rfl⟩
  obtain ⟨locs, hlo⟩ : ∃ z : List Loc, z = [] := ⟨_, rfl⟩
  rw [← hH] at hP ⊢
  have hS : WS ε s9.heap H locs := by rw [hH, hlo]; exact hS
  rw [← hlo]
  clear hH hlo
  obtain ⟨fo, hob⟩ := hH.ob
  have hN := hH.inv.NB
  have hI := hH.inv
  refine lv_iload_n (pc := 0) hx hb dL_act_0 rfl (lv_at hl 1 rfl) ?_
  refine r_if_ne (pc := 1) (a := 13) hx hb dL_act_1 (tgt := 12) (by decide) ⟨by omega, by omega⟩ (fun c_1 => ?_) (fun c_1 => ?_)
  · have c_1_ := c_1
    refine lv_iload_n (pc := 12) hx hb dL_act_12 rfl (lv_at hl 1 rfl) ?_
    refine lv_iconst (pc := 13) (v := iv 1) hx hb dL_act_13 rfl ?_
    refine r_icmp_ne (pc := 14) (a := 13) (b := 1) hx hb dL_act_14 (tgt := 24) (by decide) ⟨by omega, by omega⟩ ⟨by omega, by omega⟩ (fun c_14 => ?_) (fun c_14 => ?_)
    · have c_14_ := c_14
      refine lv_iload_n (pc := 24) hx hb dL_act_24 rfl (lv_at hl 1 rfl) ?_
      refine lv_iconst (pc := 25) (v := iv 2) hx hb dL_act_25 rfl ?_
      refine r_icmp_ne (pc := 26) (a := 13) (b := 2) hx hb dL_act_26 (tgt := 37) (by decide) ⟨by omega, by omega⟩ ⟨by omega, by omega⟩ (fun c_26 => ?_) (fun c_26 => ?_)
      · have c_26_ := c_26
        refine lv_iload_n (pc := 37) hx hb dL_act_37 rfl (lv_at hl 1 rfl) ?_
        refine lv_iconst (pc := 38) (v := iv 3) hx hb dL_act_38 rfl ?_
        refine r_icmp_ne (pc := 39) (a := 13) (b := 3) hx hb dL_act_39 (tgt := 59) (by decide) ⟨by omega, by omega⟩ ⟨by omega, by omega⟩ (fun c_39 => ?_) (fun c_39 => ?_)
        · have c_39_ := c_39
          refine lv_iload_n (pc := 59) hx hb dL_act_59 rfl (lv_at hl 1 rfl) ?_
          refine lv_iconst (pc := 60) (v := iv 4) hx hb dL_act_60 rfl ?_
          refine r_icmp_ne (pc := 61) (a := 13) (b := 4) hx hb dL_act_61 (tgt := 81) (by decide) ⟨by omega, by omega⟩ ⟨by omega, by omega⟩ (fun c_61 => ?_) (fun c_61 => ?_)
          · have c_61_ := c_61
            refine lv_iload_n (pc := 81) hx hb dL_act_81 rfl (lv_at hl 1 rfl) ?_
            refine lv_iconst (pc := 82) (v := iv 5) hx hb dL_act_82 rfl ?_
            refine r_icmp_ne (pc := 83) (a := 13) (b := 5) hx hb dL_act_83 (tgt := 97) (by decide) ⟨by omega, by omega⟩ ⟨by omega, by omega⟩ (fun c_83 => ?_) (fun c_83 => ?_)
            · have c_83_ := c_83
              refine lv_iload_n (pc := 97) hx hb dL_act_97 rfl (lv_at hl 1 rfl) ?_
              refine lv_bipush (pc := 98) (v := iv 6) hx hb dL_act_98 (by decide) ?_
              refine r_icmp_ne (pc := 100) (a := 13) (b := 6) hx hb dL_act_100 (tgt := 121) (by decide) ⟨by omega, by omega⟩ ⟨by omega, by omega⟩ (fun c_100 => ?_) (fun c_100 => ?_)
              · have c_100_ := c_100
                refine lv_iload_n (pc := 121) hx hb dL_act_121 rfl (lv_at hl 1 rfl) ?_
                refine lv_bipush (pc := 122) (v := iv 7) hx hb dL_act_122 (by decide) ?_
                refine r_icmp_ne (pc := 124) (a := 13) (b := 7) hx hb dL_act_124 (tgt := 144) (by decide) ⟨by omega, by omega⟩ ⟨by omega, by omega⟩ (fun c_124 => ?_) (fun c_124 => ?_)
                · have c_124_ := c_124
                  refine lv_iload_n (pc := 144) hx hb dL_act_144 rfl (lv_at hl 1 rfl) ?_
                  refine lv_bipush (pc := 145) (v := iv 8) hx hb dL_act_145 (by decide) ?_
                  refine r_icmp_ne (pc := 147) (a := 13) (b := 8) hx hb dL_act_147 (tgt := 161) (by decide) ⟨by omega, by omega⟩ ⟨by omega, by omega⟩ (fun c_147 => ?_) (fun c_147 => ?_)
                  · have c_147_ := c_147
                    refine lv_iload_n (pc := 161) hx hb dL_act_161 rfl (lv_at hl 1 rfl) ?_
                    refine lv_bipush (pc := 162) (v := iv 9) hx hb dL_act_162 (by decide) ?_
                    refine r_icmp_ne (pc := 164) (a := 13) (b := 9) hx hb dL_act_164 (tgt := 186) (by decide) ⟨by omega, by omega⟩ ⟨by omega, by omega⟩ (fun c_164 => ?_) (fun c_164 => ?_)
                    · have c_164_ := c_164
                      refine lv_iload_n (pc := 186) hx hb dL_act_186 rfl (lv_at hl 1 rfl) ?_
                      refine lv_bipush (pc := 187) (v := iv 10) hx hb dL_act_187 (by decide) ?_
                      refine r_icmp_ne (pc := 189) (a := 13) (b := 10) hx hb dL_act_189 (tgt := 201) (by decide) ⟨by omega, by omega⟩ ⟨by omega, by omega⟩ (fun c_189 => ?_) (fun c_189 => ?_)
                      · have c_189_ := c_189
                        refine lv_iload_n (pc := 201) hx hb dL_act_201 rfl (lv_at hl 1 rfl) ?_
                        refine lv_bipush (pc := 202) (v := iv 11) hx hb dL_act_202 (by decide) ?_
                        refine r_icmp_ne (pc := 204) (a := 13) (b := 11) hx hb dL_act_204 (tgt := 214) (by decide) ⟨by omega, by omega⟩ ⟨by omega, by omega⟩ (fun c_204 => ?_) (fun c_204 => ?_)
                        · have c_204_ := c_204
                          refine lv_iload_n (pc := 214) hx hb dL_act_214 rfl (lv_at hl 1 rfl) ?_
                          refine lv_bipush (pc := 215) (v := iv 12) hx hb dL_act_215 (by decide) ?_
                          refine r_icmp_ne (pc := 217) (a := 13) (b := 12) hx hb dL_act_217 (tgt := 229) (by decide) ⟨by omega, by omega⟩ ⟨by omega, by omega⟩ (fun c_217 => ?_) (fun c_217 => ?_)
                          · have c_217_ := c_217
                            refine lv_iload_n (pc := 229) hx hb dL_act_229 rfl (lv_at hl 1 rfl) ?_
                            refine lv_bipush (pc := 230) (v := iv 13) hx hb dL_act_230 (by decide) ?_
                            refine r_icmp_ne (pc := 232) (a := 13) (b := 13) hx hb dL_act_232 (tgt := 243) (by decide) ⟨by omega, by omega⟩ ⟨by omega, by omega⟩ (fun c_232 => ?_) (fun c_232 => ?_)
                            · exact absurd c_232 (by decide)
                            · have c_232_ := c_232
                              refine lv_aload_n (pc := 235) hx hb dL_act_235 rfl (lv_at hl 0 rfl) ?_
                              refine lv_iload_n (pc := 236) hx hb dL_act_236 rfl (lv_at hl 2 rfl) ?_
                              refine c_callV (pc := 237) (y := yX4_behind) (As := [.int (iv a)]) (rest := []) hC hE hP hD hS hl.1 (c_R_behind l ε wd hst x n G hH.rd hN hI.2.1 hI.2.2.1 hI.2.2.2.1 a ra) m_14_3 m_14_4 m_14_5 m_0_2 m_14_6 hob rfl hd_yX4_behind rfl ⟨⟨by decide, by decide⟩, by decide, by decide⟩ (Nat.le_of_ble_eq_true rfl) rfl dL_act_237 ?_ ?_
                              · intro E9 ce9 q9 w9 H locs hq hP hD hS e1 e2 e3
                                obtain ⟨hc9, rfl, hw9⟩ := hq
                                rw [hw9] at hP hD
                                refine c_catch (pc := 237) (E := nIOE) (pre := []) (xr := ⟨0, 249, 250, 61⟩) (suf := [⟨0, 249, 255, 63⟩, ⟨0, 249, 260, 65⟩]) hC hE (by decide +kernel) (by decide +kernel) rfl (fun _ h => absurd h List.not_mem_nil) (by decide) (by decide) m_4_21 e1 e2 e3 ?_
                                refine lv_astore (lv' := [(5, .ref q9), (0, .ref x), (1, .int (iv 13)), (2, .int (iv a)), (3, .int (iv b)), (4, .int (iv c))]) (pc := 250) hx hb dL_act_250 hl (by decide) rfl (fun ls hl => ?_)
                                refine lv_bipush (pc := 252) (v := iv (-71)) hx hb dL_act_252 (by decide) ?_
                                refine c_iret (pc := 254) hC hQ hP hD hS (by decide) (by decide) dL_act_254 ?_
                                exact ⟨rfl, rfl⟩
                              · intro v9 w9 H locs hq hP hD hS
                                have hc9 := hq.1
                                exfalso
                                omega
                          · exact absurd c_217 (by decide)
                        · exact absurd c_204 (by decide)
                      · exact absurd c_189 (by decide)
                    · exact absurd c_164 (by decide)
                  · exact absurd c_147 (by decide)
                · exact absurd c_124 (by decide)
              · exact absurd c_100 (by decide)
            · exact absurd c_83 (by decide)
          · exact absurd c_61 (by decide)
        · exact absurd c_39 (by decide)
      · exact absurd c_26 (by decide)
    · exact absurd c_14 (by decide)
  · exact absurd c_1 (by decide)

abbrev rm_A_shown_io : Room := { frames := 9, cells := 2, slots := 12, locals := 203 }
set_option maxRecDepth 100000 in
set_option maxHeartbeats 4000000 in
theorem A_shown_io (l : Launch) (ε : EV) {x : Nat} {n : Nat → Int} {G : Nat → Nat → Int} {wd : va_W} (hst : l.stackTraces = false) (hH : HS ε x n G wd) (a : Int) (b : Int) (c : Int) (ra : rg a) (rb : rg b) (rc : rg c)  (h9 : ¬ ((0 ≤ a ∧ a < n 4) ∧ 0 ≤ b ∧ b < n 2)) : CTW l yL_act cL_act 6 (some .int) [(0, 249, 250, 61), (0, 249, 255, 63), (0, 249, 260, 65)] rm_A_shown_io ε [.ref x, .int (iv 14), .int (iv a), .int (iv b), .int (iv c)] (wd) (fun v w9 => v = some (.int (iv (-71))) ∧ w9 = wd) NX := by
  refine CTW.intro (by decide +kernel) (Nat.le_of_ble_eq_true rfl) ?_
  intro p9 e9 s9 m9 a9 bl9 me9 c9 ls Q9 hC hE hP hD hl hQ
  have hx := hC.1
  have hb := hC.2.1
  have hK := hE.K
  have hS : WS ε s9.heap s9.heap [] := va_S.rf
  have hl : lv_has ls 6 [(0, .ref x), (1, .int (iv 14)), (2, .int (iv a)), (3, .int (iv b)), (4, .int (iv c))] := hl
  obtain ⟨H, hH⟩ : ∃ H, H = s9.heap := ⟨_, rfl⟩
  obtain ⟨locs, hlo⟩ : ∃ z : List Loc, z = [] := ⟨_, rfl⟩
  rw [← hH] at hP ⊢
  have hS : WS ε s9.heap H locs := by rw [hH, hlo]; exact hS
  rw [← hlo]
  clear hH hlo
  obtain ⟨fo, hob⟩ := hH.ob
  have hN := hH.inv.NB
  have hI := hH.inv
  refine lv_iload_n (pc := 0) hx hb dL_act_0 rfl (lv_at hl 1 rfl) ?_
  refine r_if_ne (pc := 1) (a := 14) hx hb dL_act_1 (tgt := 12) (by decide) ⟨by omega, by omega⟩ (fun c_1 => ?_) (fun c_1 => ?_)
  · have c_1_ := c_1
    refine lv_iload_n (pc := 12) hx hb dL_act_12 rfl (lv_at hl 1 rfl) ?_
    refine lv_iconst (pc := 13) (v := iv 1) hx hb dL_act_13 rfl ?_
    refine r_icmp_ne (pc := 14) (a := 14) (b := 1) hx hb dL_act_14 (tgt := 24) (by decide) ⟨by omega, by omega⟩ ⟨by omega, by omega⟩ (fun c_14 => ?_) (fun c_14 => ?_)
    · have c_14_ := c_14
      refine lv_iload_n (pc := 24) hx hb dL_act_24 rfl (lv_at hl 1 rfl) ?_
      refine lv_iconst (pc := 25) (v := iv 2) hx hb dL_act_25 rfl ?_
      refine r_icmp_ne (pc := 26) (a := 14) (b := 2) hx hb dL_act_26 (tgt := 37) (by decide) ⟨by omega, by omega⟩ ⟨by omega, by omega⟩ (fun c_26 => ?_) (fun c_26 => ?_)
      · have c_26_ := c_26
        refine lv_iload_n (pc := 37) hx hb dL_act_37 rfl (lv_at hl 1 rfl) ?_
        refine lv_iconst (pc := 38) (v := iv 3) hx hb dL_act_38 rfl ?_
        refine r_icmp_ne (pc := 39) (a := 14) (b := 3) hx hb dL_act_39 (tgt := 59) (by decide) ⟨by omega, by omega⟩ ⟨by omega, by omega⟩ (fun c_39 => ?_) (fun c_39 => ?_)
        · have c_39_ := c_39
          refine lv_iload_n (pc := 59) hx hb dL_act_59 rfl (lv_at hl 1 rfl) ?_
          refine lv_iconst (pc := 60) (v := iv 4) hx hb dL_act_60 rfl ?_
          refine r_icmp_ne (pc := 61) (a := 14) (b := 4) hx hb dL_act_61 (tgt := 81) (by decide) ⟨by omega, by omega⟩ ⟨by omega, by omega⟩ (fun c_61 => ?_) (fun c_61 => ?_)
          · have c_61_ := c_61
            refine lv_iload_n (pc := 81) hx hb dL_act_81 rfl (lv_at hl 1 rfl) ?_
            refine lv_iconst (pc := 82) (v := iv 5) hx hb dL_act_82 rfl ?_
            refine r_icmp_ne (pc := 83) (a := 14) (b := 5) hx hb dL_act_83 (tgt := 97) (by decide) ⟨by omega, by omega⟩ ⟨by omega, by omega⟩ (fun c_83 => ?_) (fun c_83 => ?_)
            · have c_83_ := c_83
              refine lv_iload_n (pc := 97) hx hb dL_act_97 rfl (lv_at hl 1 rfl) ?_
              refine lv_bipush (pc := 98) (v := iv 6) hx hb dL_act_98 (by decide) ?_
              refine r_icmp_ne (pc := 100) (a := 14) (b := 6) hx hb dL_act_100 (tgt := 121) (by decide) ⟨by omega, by omega⟩ ⟨by omega, by omega⟩ (fun c_100 => ?_) (fun c_100 => ?_)
              · have c_100_ := c_100
                refine lv_iload_n (pc := 121) hx hb dL_act_121 rfl (lv_at hl 1 rfl) ?_
                refine lv_bipush (pc := 122) (v := iv 7) hx hb dL_act_122 (by decide) ?_
                refine r_icmp_ne (pc := 124) (a := 14) (b := 7) hx hb dL_act_124 (tgt := 144) (by decide) ⟨by omega, by omega⟩ ⟨by omega, by omega⟩ (fun c_124 => ?_) (fun c_124 => ?_)
                · have c_124_ := c_124
                  refine lv_iload_n (pc := 144) hx hb dL_act_144 rfl (lv_at hl 1 rfl) ?_
                  refine lv_bipush (pc := 145) (v := iv 8) hx hb dL_act_145 (by decide) ?_
                  refine r_icmp_ne (pc := 147) (a := 14) (b := 8) hx hb dL_act_147 (tgt := 161) (by decide) ⟨by omega, by omega⟩ ⟨by omega, by omega⟩ (fun c_147 => ?_) (fun c_147 => ?_)
                  · have c_147_ := c_147
                    refine lv_iload_n (pc := 161) hx hb dL_act_161 rfl (lv_at hl 1 rfl) ?_
                    refine lv_bipush (pc := 162) (v := iv 9) hx hb dL_act_162 (by decide) ?_
                    refine r_icmp_ne (pc := 164) (a := 14) (b := 9) hx hb dL_act_164 (tgt := 186) (by decide) ⟨by omega, by omega⟩ ⟨by omega, by omega⟩ (fun c_164 => ?_) (fun c_164 => ?_)
                    · have c_164_ := c_164
                      refine lv_iload_n (pc := 186) hx hb dL_act_186 rfl (lv_at hl 1 rfl) ?_
                      refine lv_bipush (pc := 187) (v := iv 10) hx hb dL_act_187 (by decide) ?_
                      refine r_icmp_ne (pc := 189) (a := 14) (b := 10) hx hb dL_act_189 (tgt := 201) (by decide) ⟨by omega, by omega⟩ ⟨by omega, by omega⟩ (fun c_189 => ?_) (fun c_189 => ?_)
                      · have c_189_ := c_189
                        refine lv_iload_n (pc := 201) hx hb dL_act_201 rfl (lv_at hl 1 rfl) ?_
                        refine lv_bipush (pc := 202) (v := iv 11) hx hb dL_act_202 (by decide) ?_
                        refine r_icmp_ne (pc := 204) (a := 14) (b := 11) hx hb dL_act_204 (tgt := 214) (by decide) ⟨by omega, by omega⟩ ⟨by omega, by omega⟩ (fun c_204 => ?_) (fun c_204 => ?_)
                        · have c_204_ := c_204
                          refine lv_iload_n (pc := 214) hx hb dL_act_214 rfl (lv_at hl 1 rfl) ?_
                          refine lv_bipush (pc := 215) (v := iv 12) hx hb dL_act_215 (by decide) ?_
                          refine r_icmp_ne (pc := 217) (a := 14) (b := 12) hx hb dL_act_217 (tgt := 229) (by decide) ⟨by omega, by omega⟩ ⟨by omega, by omega⟩ (fun c_217 => ?_) (fun c_217 => ?_)
                          · have c_217_ := c_217
                            refine lv_iload_n (pc := 229) hx hb dL_act_229 rfl (lv_at hl 1 rfl) ?_
                            refine lv_bipush (pc := 230) (v := iv 13) hx hb dL_act_230 (by decide) ?_
                            refine r_icmp_ne (pc := 232) (a := 14) (b := 13) hx hb dL_act_232 (tgt := 243) (by decide) ⟨by omega, by omega⟩ ⟨by omega, by omega⟩ (fun c_232 => ?_) (fun c_232 => ?_)
                            · have c_232_ := c_232
                              refine lv_aload_n (pc := 243) hx hb dL_act_243 rfl (lv_at hl 0 rfl) ?_
                              refine lv_iload_n (pc := 244) hx hb dL_act_244 rfl (lv_at hl 2 rfl) ?_
                              refine lv_iload_n (pc := 245) hx hb dL_act_245 rfl (lv_at hl 3 rfl) ?_
                              refine c_callV (pc := 246) (y := yX4_shown) (As := [.int (iv a), .int (iv b)]) (rest := []) hC hE hP hD hS hl.1 (c_R_shown l ε wd hst x n G hH.rd hN hI.2.1 hI.2.2.1 a ra b rb) m_14_7 m_14_8 m_14_9 m_0_2 m_14_10 hob rfl hd_yX4_shown rfl ⟨⟨by decide, by decide⟩, by decide, by decide⟩ (Nat.le_of_ble_eq_true rfl) rfl dL_act_246 ?_ ?_
                              · intro E9 ce9 q9 w9 H locs hq hP hD hS e1 e2 e3
                                obtain ⟨hc9, rfl, hw9⟩ := hq
                                rw [hw9] at hP hD
                                refine c_catch (pc := 246) (E := nIOE) (pre := []) (xr := ⟨0, 249, 250, 61⟩) (suf := [⟨0, 249, 255, 63⟩, ⟨0, 249, 260, 65⟩]) hC hE (by decide +kernel) (by decide +kernel) rfl (fun _ h => absurd h List.not_mem_nil) (by decide) (by decide) m_4_21 e1 e2 e3 ?_
                                refine lv_astore (lv' := [(5, .ref q9), (0, .ref x), (1, .int (iv 14)), (2, .int (iv a)), (3, .int (iv b)), (4, .int (iv c))]) (pc := 250) hx hb dL_act_250 hl (by decide) rfl (fun ls hl => ?_)
                                refine lv_bipush (pc := 252) (v := iv (-71)) hx hb dL_act_252 (by decide) ?_
                                refine c_iret (pc := 254) hC hQ hP hD hS (by decide) (by decide) dL_act_254 ?_
                                exact ⟨rfl, rfl⟩
                              · intro v9 w9 H locs hq hP hD hS
                                have hc9 := hq.1
                                exfalso
                                omega
                            · exact absurd c_232 (by decide)
                          · exact absurd c_217 (by decide)
                        · exact absurd c_204 (by decide)
                      · exact absurd c_189 (by decide)
                    · exact absurd c_164 (by decide)
                  · exact absurd c_147 (by decide)
                · exact absurd c_124 (by decide)
              · exact absurd c_100 (by decide)
            · exact absurd c_83 (by decide)
          · exact absurd c_61 (by decide)
        · exact absurd c_39 (by decide)
      · exact absurd c_26 (by decide)
    · exact absurd c_14 (by decide)
  · exact absurd c_1 (by decide)

abbrev rm_A_lamp_ok : Room := { frames := 10, cells := 14, slots := 3300, locals := 526 }
set_option maxRecDepth 100000 in
set_option maxHeartbeats 4000000 in
theorem A_lamp_ok (l : Launch) (ε : EV) {x : Nat} {n : Nat → Int} {G : Nat → Nat → Int} {wd : va_W} (hst : l.stackTraces = false) (hH : HS ε x n G wd) (x9 : Int) (y9 : Int) (q : Int) (rc : Int) (se : Int) (rx9 : rg x9) (ry9 : rg y9) (rq : rg q) (rrc : rg rc) (rse : rg se) (h3 : n 3 < 512) (h9 : ((0 ≤ q ∧ q < n 1) ∧ (((0 ≤ x9 ∧ x9 ≤ 31) ∧ 0 ≤ y9 ∧ y9 ≤ 31) ∧ (1 ≤ rc ∧ rc ≤ 40) ∧ 1 ≤ se ∧ se ≤ 255)) ∧ n 2 < 12) : CTW l yL_lamp cL_lamp 7 (some .int) [(0, 11, 12, 61), (0, 11, 17, 63), (0, 11, 22, 65)] rm_A_lamp_ok ε [.ref x, .int (iv x9), .int (iv y9), .int (iv q), .int (iv rc), .int (iv se)] (wd) (fun v w9 => v = some (.int (iv (n 2))) ∧ HS ε x (va_up (va_up n 2 (n 2 + 1)) 3 (n 3 + 1)) (va_up (GL n G x9 y9 q rc se) 11 (va_up ((GL n G x9 y9 q rc se) 11) ((n 3).toNat) (NV (GL n G x9 y9 q rc se) (n 2)))) w9) NX := by
  refine CTW.intro (by decide +kernel) (Nat.le_of_ble_eq_true rfl) ?_
  intro p9 e9 s9 m9 a9 bl9 me9 c9 ls Q9 hC hE hP hD hl hQ
  have hx := hC.1
  have hb := hC.2.1
  have hK := hE.K
  have hS : WS ε s9.heap s9.heap [] := va_S.rf
  have hl : lv_has ls 7 [(0, .ref x), (1, .int (iv x9)), (2, .int (iv y9)), (3, .int (iv q)), (4, .int (iv rc)), (5, .int (iv se))] := hl
  obtain ⟨H, hH⟩ : ∃ H, H = s9.heap := ⟨_, rfl⟩
  obtain ⟨locs, hlo⟩ : ∃ z : List Loc, z = [] := ⟨_, rfl⟩
  rw [← hH] at hP ⊢
  have hS : WS ε s9.heap H locs := by rw [hH, hlo]; exact hS
  rw [← hlo]
  clear hH hlo
  obtain ⟨fo, hob⟩ := hH.ob
  have hN := hH.inv.NB
  have hI := hH.inv
  refine lv_aload_n (pc := 0) hx hb dL_lamp_0 rfl (lv_at hl 0 rfl) ?_
  refine lv_iload_n (pc := 1) hx hb dL_lamp_1 rfl (lv_at hl 1 rfl) ?_
  refine lv_iload_n (pc := 2) hx hb dL_lamp_2 rfl (lv_at hl 2 rfl) ?_
  refine lv_iload_n (pc := 3) hx hb dL_lamp_3 rfl (lv_at hl 3 rfl) ?_
  refine lv_iload (pc := 4) hx hb dL_lamp_4 (lv_at hl 4 rfl) ?_
  refine lv_iload (pc := 6) hx hb dL_lamp_6 (lv_at hl 5 rfl) ?_
  refine c_callV (pc := 8) (y := yX4_lamp) (As := [.int (iv x9), .int (iv y9), .int (iv q), .int (iv rc), .int (iv se)]) (rest := []) hC hE hP hD hS hl.1 (KX_lamp l ε hst hH x9 y9 q rc se rx9 ry9 rq rrc rse h3) m_14_18 m_14_19 m_14_20 m_0_2 m_14_21 hob rfl hd_yX4_lamp rfl ⟨⟨by decide, by decide⟩, by decide, by decide⟩ (Nat.le_of_ble_eq_true rfl) rfl dL_lamp_8 ?_ ?_
  · intro E9 ce9 q9 w9 H locs hq hP hD hS e1 e2 e3
    rcases hq with hq | hq | hq
    · have hc9 := hq.1
      exfalso
      omega
    · have hc9 := hq.1
      exfalso
      omega
    · have hc9 := hq.1
      exfalso
      omega
  · intro v9 w9 H locs hq hP hD hS
    obtain ⟨hc9, hv_, hs_⟩ := hq
    rw [hv_]
    clear hv_
    dsimp only [Option.toList, List.cons_append, List.nil_append]
    refine c_iret (pc := 11) hC hQ hP hD hS (by decide) (by decide) dL_lamp_11 ?_
    exact ⟨rfl, hs_⟩

abbrev rm_A_lamp_io : Room := { frames := 10, cells := 14, slots := 3300, locals := 526 }
set_option maxRecDepth 100000 in
set_option maxHeartbeats 4000000 in
theorem A_lamp_io (l : Launch) (ε : EV) {x : Nat} {n : Nat → Int} {G : Nat → Nat → Int} {wd : va_W} (hst : l.stackTraces = false) (hH : HS ε x n G wd) (x9 : Int) (y9 : Int) (q : Int) (rc : Int) (se : Int) (rx9 : rg x9) (ry9 : rg y9) (rq : rg q) (rrc : rg rc) (rse : rg se) (h3 : n 3 < 512) (h9 : ¬ (0 ≤ q ∧ q < n 1)) : CTW l yL_lamp cL_lamp 7 (some .int) [(0, 11, 12, 61), (0, 11, 17, 63), (0, 11, 22, 65)] rm_A_lamp_io ε [.ref x, .int (iv x9), .int (iv y9), .int (iv q), .int (iv rc), .int (iv se)] (wd) (fun v w9 => v = some (.int (iv (-71))) ∧ w9 = wd) NX := by
  refine CTW.intro (by decide +kernel) (Nat.le_of_ble_eq_true rfl) ?_
  intro p9 e9 s9 m9 a9 bl9 me9 c9 ls Q9 hC hE hP hD hl hQ
  have hx := hC.1
  have hb := hC.2.1
  have hK := hE.K
  have hS : WS ε s9.heap s9.heap [] := va_S.rf
  have hl : lv_has ls 7 [(0, .ref x), (1, .int (iv x9)), (2, .int (iv y9)), (3, .int (iv q)), (4, .int (iv rc)), (5, .int (iv se))] := hl
  obtain ⟨H, hH⟩ : ∃ H, H = s9.heap := ⟨_, rfl⟩
  obtain ⟨locs, hlo⟩ : ∃ z : List Loc, z = [] := ⟨_, rfl⟩
  rw [← hH] at hP ⊢
  have hS : WS ε s9.heap H locs := by rw [hH, hlo]; exact hS
  rw [← hlo]
  clear hH hlo
  obtain ⟨fo, hob⟩ := hH.ob
  have hN := hH.inv.NB
  have hI := hH.inv
  refine lv_aload_n (pc := 0) hx hb dL_lamp_0 rfl (lv_at hl 0 rfl) ?_
  refine lv_iload_n (pc := 1) hx hb dL_lamp_1 rfl (lv_at hl 1 rfl) ?_
  refine lv_iload_n (pc := 2) hx hb dL_lamp_2 rfl (lv_at hl 2 rfl) ?_
  refine lv_iload_n (pc := 3) hx hb dL_lamp_3 rfl (lv_at hl 3 rfl) ?_
  refine lv_iload (pc := 4) hx hb dL_lamp_4 (lv_at hl 4 rfl) ?_
  refine lv_iload (pc := 6) hx hb dL_lamp_6 (lv_at hl 5 rfl) ?_
  refine c_callV (pc := 8) (y := yX4_lamp) (As := [.int (iv x9), .int (iv y9), .int (iv q), .int (iv rc), .int (iv se)]) (rest := []) hC hE hP hD hS hl.1 (KX_lamp l ε hst hH x9 y9 q rc se rx9 ry9 rq rrc rse h3) m_14_18 m_14_19 m_14_20 m_0_2 m_14_21 hob rfl hd_yX4_lamp rfl ⟨⟨by decide, by decide⟩, by decide, by decide⟩ (Nat.le_of_ble_eq_true rfl) rfl dL_lamp_8 ?_ ?_
  · intro E9 ce9 q9 w9 H locs hq hP hD hS e1 e2 e3
    rcases hq with hq | hq | hq
    · obtain ⟨hc9, rfl, hw9⟩ := hq
      rw [hw9] at hP hD
      refine c_catch (pc := 8) (E := nIOE) (pre := []) (xr := ⟨0, 11, 12, 61⟩) (suf := [⟨0, 11, 17, 63⟩, ⟨0, 11, 22, 65⟩]) hC hE (by decide +kernel) (by decide +kernel) rfl (fun _ h => absurd h List.not_mem_nil) (by decide) (by decide) m_4_21 e1 e2 e3 ?_
      refine lv_astore (lv' := [(6, .ref q9), (0, .ref x), (1, .int (iv x9)), (2, .int (iv y9)), (3, .int (iv q)), (4, .int (iv rc)), (5, .int (iv se))]) (pc := 12) hx hb dL_lamp_12 hl (by decide) rfl (fun ls hl => ?_)
      refine lv_bipush (pc := 14) (v := iv (-71)) hx hb dL_lamp_14 (by decide) ?_
      refine c_iret (pc := 16) hC hQ hP hD hS (by decide) (by decide) dL_lamp_16 ?_
      exact ⟨rfl, rfl⟩
    · have hc9 := hq.1
      exfalso
      omega
    · have hc9 := hq.1
      exfalso
      omega
  · intro v9 w9 H locs hq hP hD hS
    have hc9 := hq.1
    exfalso
    omega

abbrev rm_A_lamp_ia : Room := { frames := 10, cells := 14, slots := 3300, locals := 526 }
set_option maxRecDepth 100000 in
set_option maxHeartbeats 4000000 in
theorem A_lamp_ia (l : Launch) (ε : EV) {x : Nat} {n : Nat → Int} {G : Nat → Nat → Int} {wd : va_W} (hst : l.stackTraces = false) (hH : HS ε x n G wd) (x9 : Int) (y9 : Int) (q : Int) (rc : Int) (se : Int) (rx9 : rg x9) (ry9 : rg y9) (rq : rg q) (rrc : rg rc) (rse : rg se) (h3 : n 3 < 512) (h9 : (0 ≤ q ∧ q < n 1) ∧ ¬ (((0 ≤ x9 ∧ x9 ≤ 31) ∧ 0 ≤ y9 ∧ y9 ≤ 31) ∧ (1 ≤ rc ∧ rc ≤ 40) ∧ 1 ≤ se ∧ se ≤ 255)) : CTW l yL_lamp cL_lamp 7 (some .int) [(0, 11, 12, 61), (0, 11, 17, 63), (0, 11, 22, 65)] rm_A_lamp_ia ε [.ref x, .int (iv x9), .int (iv y9), .int (iv q), .int (iv rc), .int (iv se)] (wd) (fun v w9 => v = some (.int (iv (-72))) ∧ w9 = wd) NX := by
  refine CTW.intro (by decide +kernel) (Nat.le_of_ble_eq_true rfl) ?_
  intro p9 e9 s9 m9 a9 bl9 me9 c9 ls Q9 hC hE hP hD hl hQ
  have hx := hC.1
  have hb := hC.2.1
  have hK := hE.K
  have hS : WS ε s9.heap s9.heap [] := va_S.rf
  have hl : lv_has ls 7 [(0, .ref x), (1, .int (iv x9)), (2, .int (iv y9)), (3, .int (iv q)), (4, .int (iv rc)), (5, .int (iv se))] := hl
  obtain ⟨H, hH⟩ : ∃ H, H = s9.heap := ⟨_, rfl⟩
  obtain ⟨locs, hlo⟩ : ∃ z : List Loc, z = [] := ⟨_, rfl⟩
  rw [← hH] at hP ⊢
  have hS : WS ε s9.heap H locs := by rw [hH, hlo]; exact hS
  rw [← hlo]
  clear hH hlo
  obtain ⟨fo, hob⟩ := hH.ob
  have hN := hH.inv.NB
  have hI := hH.inv
  refine lv_aload_n (pc := 0) hx hb dL_lamp_0 rfl (lv_at hl 0 rfl) ?_
  refine lv_iload_n (pc := 1) hx hb dL_lamp_1 rfl (lv_at hl 1 rfl) ?_
  refine lv_iload_n (pc := 2) hx hb dL_lamp_2 rfl (lv_at hl 2 rfl) ?_
  refine lv_iload_n (pc := 3) hx hb dL_lamp_3 rfl (lv_at hl 3 rfl) ?_
  refine lv_iload (pc := 4) hx hb dL_lamp_4 (lv_at hl 4 rfl) ?_
  refine lv_iload (pc := 6) hx hb dL_lamp_6 (lv_at hl 5 rfl) ?_
  refine c_callV (pc := 8) (y := yX4_lamp) (As := [.int (iv x9), .int (iv y9), .int (iv q), .int (iv rc), .int (iv se)]) (rest := []) hC hE hP hD hS hl.1 (KX_lamp l ε hst hH x9 y9 q rc se rx9 ry9 rq rrc rse h3) m_14_18 m_14_19 m_14_20 m_0_2 m_14_21 hob rfl hd_yX4_lamp rfl ⟨⟨by decide, by decide⟩, by decide, by decide⟩ (Nat.le_of_ble_eq_true rfl) rfl dL_lamp_8 ?_ ?_
  · intro E9 ce9 q9 w9 H locs hq hP hD hS e1 e2 e3
    rcases hq with hq | hq | hq
    · have hc9 := hq.1
      exfalso
      omega
    · obtain ⟨hc9, rfl, hw9⟩ := hq
      rw [hw9] at hP hD
      refine c_catch (pc := 8) (E := nIAE) (pre := [⟨0, 11, 12, 61⟩]) (xr := ⟨0, 11, 17, 63⟩) (suf := [⟨0, 11, 22, 65⟩]) hC hE (by decide +kernel) (by decide +kernel) rfl (List.forall_mem_cons.mpr ⟨⟨by decide, nIOE, by decide +kernel, by decide +kernel, m_4_21⟩, fun _ h => absurd h List.not_mem_nil⟩) (by decide) (by decide) m_4_22 e1 e2 e3 ?_
      refine lv_astore (lv' := [(6, .ref q9), (0, .ref x), (1, .int (iv x9)), (2, .int (iv y9)), (3, .int (iv q)), (4, .int (iv rc)), (5, .int (iv se))]) (pc := 17) hx hb dL_lamp_17 hl (by decide) rfl (fun ls hl => ?_)
      refine lv_bipush (pc := 19) (v := iv (-72)) hx hb dL_lamp_19 (by decide) ?_
      refine c_iret (pc := 21) hC hQ hP hD hS (by decide) (by decide) dL_lamp_21 ?_
      exact ⟨rfl, rfl⟩
    · have hc9 := hq.1
      exfalso
      omega
  · intro v9 w9 H locs hq hP hD hS
    have hc9 := hq.1
    exfalso
    omega

abbrev rm_A_lamp_is : Room := { frames := 10, cells := 14, slots := 3300, locals := 526 }
set_option maxRecDepth 100000 in
set_option maxHeartbeats 4000000 in
theorem A_lamp_is (l : Launch) (ε : EV) {x : Nat} {n : Nat → Int} {G : Nat → Nat → Int} {wd : va_W} (hst : l.stackTraces = false) (hH : HS ε x n G wd) (x9 : Int) (y9 : Int) (q : Int) (rc : Int) (se : Int) (rx9 : rg x9) (ry9 : rg y9) (rq : rg q) (rrc : rg rc) (rse : rg se) (h3 : n 3 < 512) (h9 : ((0 ≤ q ∧ q < n 1) ∧ (((0 ≤ x9 ∧ x9 ≤ 31) ∧ 0 ≤ y9 ∧ y9 ≤ 31) ∧ (1 ≤ rc ∧ rc ≤ 40) ∧ 1 ≤ se ∧ se ≤ 255)) ∧ n 2 = 12) : CTW l yL_lamp cL_lamp 7 (some .int) [(0, 11, 12, 61), (0, 11, 17, 63), (0, 11, 22, 65)] rm_A_lamp_is ε [.ref x, .int (iv x9), .int (iv y9), .int (iv q), .int (iv rc), .int (iv se)] (wd) (fun v w9 => v = some (.int (iv (-73))) ∧ w9 = wd) NX := by
  refine CTW.intro (by decide +kernel) (Nat.le_of_ble_eq_true rfl) ?_
  intro p9 e9 s9 m9 a9 bl9 me9 c9 ls Q9 hC hE hP hD hl hQ
  have hx := hC.1
  have hb := hC.2.1
  have hK := hE.K
  have hS : WS ε s9.heap s9.heap [] := va_S.rf
  have hl : lv_has ls 7 [(0, .ref x), (1, .int (iv x9)), (2, .int (iv y9)), (3, .int (iv q)), (4, .int (iv rc)), (5, .int (iv se))] := hl
  obtain ⟨H, hH⟩ : ∃ H, H = s9.heap := ⟨_, rfl⟩
  obtain ⟨locs, hlo⟩ : ∃ z : List Loc, z = [] := ⟨_, rfl⟩
  rw [← hH] at hP ⊢
  have hS : WS ε s9.heap H locs := by rw [hH, hlo]; exact hS
  rw [← hlo]
  clear hH hlo
  obtain ⟨fo, hob⟩ := hH.ob
  have hN := hH.inv.NB
  have hI := hH.inv
  refine lv_aload_n (pc := 0) hx hb dL_lamp_0 rfl (lv_at hl 0 rfl) ?_
  refine lv_iload_n (pc := 1) hx hb dL_lamp_1 rfl (lv_at hl 1 rfl) ?_
  refine lv_iload_n (pc := 2) hx hb dL_lamp_2 rfl (lv_at hl 2 rfl) ?_
  refine lv_iload_n (pc := 3) hx hb dL_lamp_3 rfl (lv_at hl 3 rfl) ?_
  refine lv_iload (pc := 4) hx hb dL_lamp_4 (lv_at hl 4 rfl) ?_
  refine lv_iload (pc := 6) hx hb dL_lamp_6 (lv_at hl 5 rfl) ?_
  refine c_callV (pc := 8) (y := yX4_lamp) (As := [.int (iv x9), .int (iv y9), .int (iv q), .int (iv rc), .int (iv se)]) (rest := []) hC hE hP hD hS hl.1 (KX_lamp l ε hst hH x9 y9 q rc se rx9 ry9 rq rrc rse h3) m_14_18 m_14_19 m_14_20 m_0_2 m_14_21 hob rfl hd_yX4_lamp rfl ⟨⟨by decide, by decide⟩, by decide, by decide⟩ (Nat.le_of_ble_eq_true rfl) rfl dL_lamp_8 ?_ ?_
  · intro E9 ce9 q9 w9 H locs hq hP hD hS e1 e2 e3
    rcases hq with hq | hq | hq
    · have hc9 := hq.1
      exfalso
      omega
    · have hc9 := hq.1
      exfalso
      omega
    · obtain ⟨hc9, rfl, hw9⟩ := hq
      rw [hw9] at hP hD
      refine c_catch (pc := 8) (E := nISE) (pre := [⟨0, 11, 12, 61⟩, ⟨0, 11, 17, 63⟩]) (xr := ⟨0, 11, 22, 65⟩) (suf := []) hC hE (by decide +kernel) (by decide +kernel) rfl (List.forall_mem_cons.mpr ⟨⟨by decide, nIOE, by decide +kernel, by decide +kernel, m_4_21⟩, List.forall_mem_cons.mpr ⟨⟨by decide, nIAE, by decide +kernel, by decide +kernel, m_4_22⟩, fun _ h => absurd h List.not_mem_nil⟩⟩) (by decide) (by decide) m_4_23 e1 e2 e3 ?_
      refine lv_astore (lv' := [(6, .ref q9), (0, .ref x), (1, .int (iv x9)), (2, .int (iv y9)), (3, .int (iv q)), (4, .int (iv rc)), (5, .int (iv se))]) (pc := 22) hx hb dL_lamp_22 hl (by decide) rfl (fun ls hl => ?_)
      refine lv_bipush (pc := 24) (v := iv (-73)) hx hb dL_lamp_24 (by decide) ?_
      refine c_iret (pc := 26) hC hQ hP hD hS (by decide) (by decide) dL_lamp_26 ?_
      exact ⟨rfl, rfl⟩
  · intro v9 w9 H locs hq hP hD hS
    have hc9 := hq.1
    exfalso
    omega

abbrev rm_A_taken_io : Room := { frames := 9, cells := 6, slots := 36, locals := 233 }
set_option maxRecDepth 100000 in
set_option maxHeartbeats 4000000 in
theorem A_taken_io (l : Launch) (ε : EV) {x : Nat} {n : Nat → Int} {G : Nat → Nat → Int} {wd : va_W} (hst : l.stackTraces = false) (hH : HS ε x n G wd) (ch : Int) (x9 : Int) (y9 : Int) (i : Int) (fr : Int) (many : Int) (rch : rg ch) (rx9 : rg x9) (ry9 : rg y9) (ri : rg i) (rfr : rg fr) (rmany : rg many)  (h9 : ¬ ((0 ≤ ch ∧ ch < n 4) ∧ 0 ≤ i ∧ i < n 2)) : CTW l yL_taken cL_taken 8 (some .int) [(0, 13, 14, 61), (0, 13, 19, 63)] rm_A_taken_io ε [.ref x, .int (iv ch), .int (iv x9), .int (iv y9), .int (iv i), .int (iv fr), .int (iv many)] (wd) (fun v w9 => v = some (.int (iv (-71))) ∧ w9 = wd) NX := by
  refine CTW.intro (by decide +kernel) (Nat.le_of_ble_eq_true rfl) ?_
  intro p9 e9 s9 m9 a9 bl9 me9 c9 ls Q9 hC hE hP hD hl hQ
  have hx := hC.1
  have hb := hC.2.1
  have hK := hE.K
  have hS : WS ε s9.heap s9.heap [] := va_S.rf
  have hl : lv_has ls 8 [(0, .ref x), (1, .int (iv ch)), (2, .int (iv x9)), (3, .int (iv y9)), (4, .int (iv i)), (5, .int (iv fr)), (6, .int (iv many))] := hl
  obtain ⟨H, hH⟩ : ∃ H, H = s9.heap := ⟨_, rfl⟩
  obtain ⟨locs, hlo⟩ : ∃ z : List Loc, z = [] := ⟨_, rfl⟩
  rw [← hH] at hP ⊢
  have hS : WS ε s9.heap H locs := by rw [hH, hlo]; exact hS
  rw [← hlo]
  clear hH hlo
  obtain ⟨fo, hob⟩ := hH.ob
  have hN := hH.inv.NB
  have hI := hH.inv
  refine lv_aload_n (pc := 0) hx hb dL_taken_0 rfl (lv_at hl 0 rfl) ?_
  refine lv_iload_n (pc := 1) hx hb dL_taken_1 rfl (lv_at hl 1 rfl) ?_
  refine lv_iload_n (pc := 2) hx hb dL_taken_2 rfl (lv_at hl 2 rfl) ?_
  refine lv_iload_n (pc := 3) hx hb dL_taken_3 rfl (lv_at hl 3 rfl) ?_
  refine lv_iload (pc := 4) hx hb dL_taken_4 (lv_at hl 4 rfl) ?_
  refine lv_iload (pc := 6) hx hb dL_taken_6 (lv_at hl 5 rfl) ?_
  refine lv_iload (pc := 8) hx hb dL_taken_8 (lv_at hl 6 rfl) ?_
  refine c_callV (pc := 10) (y := yX4_taken) (As := [.int (iv ch), .int (iv x9), .int (iv y9), .int (iv i), .int (iv fr), .int (iv many)]) (rest := []) hC hE hP hD hS hl.1 (c_R_taken l ε wd hst x n G hH.rd hN hI.2.1 hI.2.2.1 hI.2.2.2.1 ch x9 y9 i fr many rch rx9 ry9 ri rfr rmany) m_15_15 m_15_16 m_15_17 m_0_2 m_15_18 hob rfl hd_yX4_taken rfl ⟨⟨by decide, by decide⟩, by decide, by decide⟩ (Nat.le_of_ble_eq_true rfl) rfl dL_taken_10 ?_ ?_
  · intro E9 ce9 q9 w9 H locs hq hP hD hS e1 e2 e3
    rcases hq with hq | hq
    · obtain ⟨hc9, rfl, hw9⟩ := hq
      rw [hw9] at hP hD
      refine c_catch (pc := 10) (E := nIOE) (pre := []) (xr := ⟨0, 13, 14, 61⟩) (suf := [⟨0, 13, 19, 63⟩]) hC hE (by decide +kernel) (by decide +kernel) rfl (fun _ h => absurd h List.not_mem_nil) (by decide) (by decide) m_4_21 e1 e2 e3 ?_
      refine lv_astore (lv' := [(7, .ref q9), (0, .ref x), (1, .int (iv ch)), (2, .int (iv x9)), (3, .int (iv y9)), (4, .int (iv i)), (5, .int (iv fr)), (6, .int (iv many))]) (pc := 14) hx hb dL_taken_14 hl (by decide) rfl (fun ls hl => ?_)
      refine lv_bipush (pc := 16) (v := iv (-71)) hx hb dL_taken_16 (by decide) ?_
      refine c_iret (pc := 18) hC hQ hP hD hS (by decide) (by decide) dL_taken_18 ?_
      exact ⟨rfl, rfl⟩
    · have hc9 := hq.1
      exfalso
      omega
  · intro v9 w9 H locs hq hP hD hS
    have hc9 := hq.1
    exfalso
    omega

abbrev rm_A_taken_ia : Room := { frames := 9, cells := 6, slots := 36, locals := 233 }
set_option maxRecDepth 100000 in
set_option maxHeartbeats 4000000 in
theorem A_taken_ia (l : Launch) (ε : EV) {x : Nat} {n : Nat → Int} {G : Nat → Nat → Int} {wd : va_W} (hst : l.stackTraces = false) (hH : HS ε x n G wd) (ch : Int) (x9 : Int) (y9 : Int) (i : Int) (fr : Int) (many : Int) (rch : rg ch) (rx9 : rg x9) (ry9 : rg y9) (ri : rg i) (rfr : rg fr) (rmany : rg many)  (h9 : ((0 ≤ ch ∧ ch < n 4) ∧ 0 ≤ i ∧ i < n 2) ∧ ¬ (((0 ≤ x9 ∧ x9 ≤ 31) ∧ 0 ≤ y9 ∧ y9 ≤ 31) ∧ (0 ≤ fr ∧ fr ≤ 1000) ∧ 1 ≤ many ∧ many ≤ 60)) : CTW l yL_taken cL_taken 8 (some .int) [(0, 13, 14, 61), (0, 13, 19, 63)] rm_A_taken_ia ε [.ref x, .int (iv ch), .int (iv x9), .int (iv y9), .int (iv i), .int (iv fr), .int (iv many)] (wd) (fun v w9 => v = some (.int (iv (-72))) ∧ w9 = wd) NX := by
  refine CTW.intro (by decide +kernel) (Nat.le_of_ble_eq_true rfl) ?_
  intro p9 e9 s9 m9 a9 bl9 me9 c9 ls Q9 hC hE hP hD hl hQ
  have hx := hC.1
  have hb := hC.2.1
  have hK := hE.K
  have hS : WS ε s9.heap s9.heap [] := va_S.rf
  have hl : lv_has ls 8 [(0, .ref x), (1, .int (iv ch)), (2, .int (iv x9)), (3, .int (iv y9)), (4, .int (iv i)), (5, .int (iv fr)), (6, .int (iv many))] := hl
  obtain ⟨H, hH⟩ : ∃ H, H = s9.heap := ⟨_, rfl⟩
  obtain ⟨locs, hlo⟩ : ∃ z : List Loc, z = [] := ⟨_, rfl⟩
  rw [← hH] at hP ⊢
  have hS : WS ε s9.heap H locs := by rw [hH, hlo]; exact hS
  rw [← hlo]
  clear hH hlo
  obtain ⟨fo, hob⟩ := hH.ob
  have hN := hH.inv.NB
  have hI := hH.inv
  refine lv_aload_n (pc := 0) hx hb dL_taken_0 rfl (lv_at hl 0 rfl) ?_
  refine lv_iload_n (pc := 1) hx hb dL_taken_1 rfl (lv_at hl 1 rfl) ?_
  refine lv_iload_n (pc := 2) hx hb dL_taken_2 rfl (lv_at hl 2 rfl) ?_
  refine lv_iload_n (pc := 3) hx hb dL_taken_3 rfl (lv_at hl 3 rfl) ?_
  refine lv_iload (pc := 4) hx hb dL_taken_4 (lv_at hl 4 rfl) ?_
  refine lv_iload (pc := 6) hx hb dL_taken_6 (lv_at hl 5 rfl) ?_
  refine lv_iload (pc := 8) hx hb dL_taken_8 (lv_at hl 6 rfl) ?_
  refine c_callV (pc := 10) (y := yX4_taken) (As := [.int (iv ch), .int (iv x9), .int (iv y9), .int (iv i), .int (iv fr), .int (iv many)]) (rest := []) hC hE hP hD hS hl.1 (c_R_taken l ε wd hst x n G hH.rd hN hI.2.1 hI.2.2.1 hI.2.2.2.1 ch x9 y9 i fr many rch rx9 ry9 ri rfr rmany) m_15_15 m_15_16 m_15_17 m_0_2 m_15_18 hob rfl hd_yX4_taken rfl ⟨⟨by decide, by decide⟩, by decide, by decide⟩ (Nat.le_of_ble_eq_true rfl) rfl dL_taken_10 ?_ ?_
  · intro E9 ce9 q9 w9 H locs hq hP hD hS e1 e2 e3
    rcases hq with hq | hq
    · have hc9 := hq.1
      exfalso
      omega
    · obtain ⟨hc9, rfl, hw9⟩ := hq
      rw [hw9] at hP hD
      refine c_catch (pc := 10) (E := nIAE) (pre := [⟨0, 13, 14, 61⟩]) (xr := ⟨0, 13, 19, 63⟩) (suf := []) hC hE (by decide +kernel) (by decide +kernel) rfl (List.forall_mem_cons.mpr ⟨⟨by decide, nIOE, by decide +kernel, by decide +kernel, m_4_21⟩, fun _ h => absurd h List.not_mem_nil⟩) (by decide) (by decide) m_4_22 e1 e2 e3 ?_
      refine lv_astore (lv' := [(7, .ref q9), (0, .ref x), (1, .int (iv ch)), (2, .int (iv x9)), (3, .int (iv y9)), (4, .int (iv i)), (5, .int (iv fr)), (6, .int (iv many))]) (pc := 19) hx hb dL_taken_19 hl (by decide) rfl (fun ls hl => ?_)
      refine lv_bipush (pc := 21) (v := iv (-72)) hx hb dL_taken_21 (by decide) ?_
      refine c_iret (pc := 23) hC hQ hP hD hS (by decide) (by decide) dL_taken_23 ?_
      exact ⟨rfl, rfl⟩
  · intro v9 w9 H locs hq hP hD hS
    have hc9 := hq.1
    exfalso
    omega
