abbrev rm_c_L_phase : Room := { frames := 8, cells := 2, slots := 12, locals := 151 }
set_option maxRecDepth 100000 in
set_option maxHeartbeats 4000000 in
theorem c_L_phase (l : Launch) (ε : EV) (R9 : va_W) (o : Nat) (g : Nat → Int) (L : List Nat) (f : Nat → va_E) (ρ : Nat → Int) (hst : l.stackTraces = false) (x : Nat) (n : Nat → Int) (G : Nat → Nat → Int) (hR : RX (IP L f ρ) ε x n G) (hI : INV n G) (t : Int) (rt : rg t) : CTW l yL_phase cL_phase 4 (some .int) [(0, 9, 12, 13), (0, 9, 15, 15)] rm_c_L_phase ε [.ref x, .int (iv t), .ref o] ((R9 ++ [(o, eJ ε 1 g)]) ++ va_pl L f) (fun v w => (((1 ≤ t ∧ t ≤ 9) ∧ n 0 < 6) ∧ v = some (.int (iv 0)) ∧ LOK ε R9 o x (va_up g 0 (n 0 + 1)) (va_up n 0 (n 0 + 1)) (va_up G 0 (va_up (G 0) (n 0).toNat t)) w) ∨ ((¬ (1 ≤ t ∧ t ≤ 9)) ∧ v = some (.int (iv 1)) ∧ LOK ε R9 o x g n G w) ∨ (((1 ≤ t ∧ t ≤ 9) ∧ n 0 = 6) ∧ v = some (.int (iv 2)) ∧ LOK ε R9 o x g n G w)) NX := by
  refine CTW.intro (by decide +kernel) (Nat.le_of_ble_eq_true rfl) ?_
  intro p9 e9 s9 m9 a9 bl9 me9 c9 ls Q9 hC hE hP hD hl hQ
  have hx := hC.1
  have hb := hC.2.1
  have hK := hE.K
  have hS : WS ε s9.heap s9.heap [] := va_S.rf
  have hl : lv_has ls 4 [(0, .ref x), (1, .int (iv t)), (2, .ref o)] := hl
  obtain ⟨H, hH⟩ : ∃ H, H = s9.heap := ⟨_, rfl⟩
  obtain ⟨locs, hlo⟩ : ∃ z : List Loc, z = [] := ⟨_, rfl⟩
  rw [← hH] at hP ⊢
  have hS : WS ε s9.heap H locs := by rw [hH, hlo]; exact hS
  rw [← hlo]
  clear hH hlo
  obtain ⟨dr, aP, aL, aT, aC, Dr, eP, eL, eT, eC, hx0, -⟩ := id hR
  have hnb := hI.NB
  have hRI : RX (IN ((R9 ++ [(o, eJ ε 1 g)]) ++ va_pl L f)) ε x n G := RX.map IP.IN hR
  refine lv_aload_n (pc := 0) hx hb dL_phase_0 rfl (lv_at hl 2 rfl) ?_
  refine lv_iconst (pc := 1) (v := iv 0) hx hb dL_phase_1 rfl ?_
  refine lv_aload_n (pc := 2) hx hb dL_phase_2 rfl (lv_at hl 0 rfl) ?_
  refine lv_iload_n (pc := 3) hx hb dL_phase_3 rfl (lv_at hl 1 rfl) ?_
  refine c_callV (pc := 4) (y := yX4_phase) (As := [.int (iv t)]) (rest := [.int (iv 0), .ref o]) hC hE hP hD hS hl.1 (c_W_phase l ε (R9 ++ [(o, eJ ε 1 g)]) L f hst ρ x n G hR hI.NB hI.1 t rt) m_2_13 m_2_14 m_2_15 m_0_2 m_2_16 (in_pl hx0.1.1 hx0.1.2) rfl hd_yX4_phase rfl ⟨⟨by decide, by decide⟩, by decide, by decide⟩ (Nat.le_of_ble_eq_true rfl) rfl dL_phase_4 ?_ ?_
  · intro E9 ce9 q9 w9 H locs hq hP hD hS e1 e2 e3
    rcases hq with hq | hq
    · obtain ⟨hc9, rfl, hw9⟩ := hq
      rw [hw9] at hP hD
      refine c_catch (pc := 4) (E := nIAE) (pre := []) (xr := ⟨0, 9, 12, 13⟩) (suf := [⟨0, 9, 15, 15⟩]) hC hE (by decide +kernel) (by decide +kernel) rfl (fun _ h => absurd h List.not_mem_nil) (by decide) (by decide) m_2_11 e1 e2 e3 ?_
      refine lv_astore_n (lv' := [(3, .ref q9), (0, .ref x), (1, .int (iv t)), (2, .ref o)]) (pc := 12) hx hb dL_phase_12 rfl hl (by decide) rfl (fun ls hl => ?_)
      refine lv_iconst (pc := 13) (v := iv 1) hx hb dL_phase_13 rfl ?_
      refine c_iret (pc := 14) hC hQ hP hD hS (by decide) (by decide) dL_phase_14 ?_
      exact Or.inr (Or.inl (⟨hc9, rfl, L, f, ρ, rfl, hR⟩))
    · obtain ⟨hc9, rfl, hw9⟩ := hq
      rw [hw9] at hP hD
      refine c_catch (pc := 4) (E := nISE) (pre := [⟨0, 9, 12, 13⟩]) (xr := ⟨0, 9, 15, 15⟩) (suf := []) hC hE (by decide +kernel) (by decide +kernel) rfl (List.forall_mem_cons.mpr ⟨⟨by decide, nIAE, by decide +kernel, by decide +kernel, m_2_11⟩, fun _ h => absurd h List.not_mem_nil⟩) (by decide) (by decide) m_2_12 e1 e2 e3 ?_
      refine lv_astore_n (lv' := [(3, .ref q9), (0, .ref x), (1, .int (iv t)), (2, .ref o)]) (pc := 15) hx hb dL_phase_15 rfl hl (by decide) rfl (fun ls hl => ?_)
      refine lv_iconst (pc := 16) (v := iv 2) hx hb dL_phase_16 rfl ?_
      refine c_iret (pc := 17) hC hQ hP hD hS (by decide) (by decide) dL_phase_17 ?_
      exact Or.inr (Or.inr (⟨hc9, rfl, L, f, ρ, rfl, hR⟩))
  · intro v9 w9 H locs hq hP hD hS
    obtain ⟨hc9, hv_, L2, f2, ρ2, hw_, hR2⟩ := hq
    rw [hw_] at hP hD
    rw [hv_]
    clear hv_ hw_
    dsimp only [Option.toList, List.cons_append, List.nil_append]
    have hd0 := hI.1.1
    refine lv_i2l (pc := 7) (v := jv (n 0 + 1)) hx hb dL_phase_7 (iv_long _ ⟨by omega, by omega⟩) ?_
    refine r_out (pc := 8) (v := n 0 + 1) hC hK hP hD hS dL_phase_8 (fun H locs hP hD hS => ?_)
    refine lv_goto (pc := 9) (tgt := 18) hx hb dL_phase_9 (by decide) ?_
    refine lv_iconst (pc := 18) (v := iv 0) hx hb dL_phase_18 rfl ?_
    refine c_iret (pc := 19) hC hQ hP hD hS (by decide) (by decide) dL_phase_19 ?_
    exact Or.inl (⟨hc9, rfl, ⟨L2, f2, ρ2, rfl, hR2⟩⟩)

abbrev rm_c_L_pattern : Room := { frames := 9, cells := 5, slots := 3100, locals := 420 }
set_option maxRecDepth 100000 in
set_option maxHeartbeats 4000000 in
theorem c_L_pattern (l : Launch) (ε : EV) (R9 : va_W) (o : Nat) (g : Nat → Int) (L : List Nat) (f : Nat → va_E) (ρ : Nat → Int) (hst : l.stackTraces = false) (x : Nat) (n : Nat → Int) (G : Nat → Nat → Int) (hR : RX (IP L f ρ) ε x n G) (hI : INV n G)  : CTW l yL_pattern cL_pattern 3 (some .int) [(0, 8, 11, 15)] rm_c_L_pattern ε [.ref x, .ref o] ((R9 ++ [(o, eJ ε 1 g)]) ++ va_pl L f) (fun v w => (((n 0 = 2 ∨ n 0 = 4 ∨ n 0 = 6) ∧ n 1 < 20) ∧ v = some (.int (iv 0)) ∧ LOK ε R9 o x (va_up g 0 (n 1)) (va_up (va_up n 0 0) 1 (n 1 + 1)) (GP n G) w) ∨ ((¬ ((n 0 = 2 ∨ n 0 = 4 ∨ n 0 = 6) ∧ n 1 < 20)) ∧ v = some (.int (iv 1)) ∧ LOK ε R9 o x g n G w)) NX := by
  refine CTW.intro (by decide +kernel) (Nat.le_of_ble_eq_true rfl) ?_
  intro p9 e9 s9 m9 a9 bl9 me9 c9 ls Q9 hC hE hP hD hl hQ
  have hx := hC.1
  have hb := hC.2.1
  have hK := hE.K
  have hS : WS ε s9.heap s9.heap [] := va_S.rf
  have hl : lv_has ls 3 [(0, .ref x), (1, .ref o)] := hl
  obtain ⟨H, hH⟩ : ∃ H, H = s9.heap := ⟨_, rfl⟩
  obtain ⟨locs, hlo⟩ : ∃ z : List Loc, z = [] := ⟨_, rfl⟩
  rw [← hH] at hP ⊢
  have hS : WS ε s9.heap H locs := by rw [hH, hlo]; exact hS
  rw [← hlo]
  clear hH hlo
  obtain ⟨dr, aP, aL, aT, aC, Dr, eP, eL, eT, eC, hx0, -⟩ := id hR
  have hnb := hI.NB
  have hRI : RX (IN ((R9 ++ [(o, eJ ε 1 g)]) ++ va_pl L f)) ε x n G := RX.map IP.IN hR
  refine lv_aload_n (pc := 0) hx hb dL_pattern_0 rfl (lv_at hl 1 rfl) ?_
  refine lv_iconst (pc := 1) (v := iv 0) hx hb dL_pattern_1 rfl ?_
  refine lv_aload_n (pc := 2) hx hb dL_pattern_2 rfl (lv_at hl 0 rfl) ?_
  refine c_callV (pc := 3) (y := yX4_pattern) (As := []) (rest := [.int (iv 0), .ref o]) hC hE hP hD hS hl.1 (c_W_pattern l ε (R9 ++ [(o, eJ ε 1 g)]) L f hst ρ x n G hR hI.NB hI.1 hI.2.1 (hI.2.2.2.2.2.1 (n 1) (Int.le_refl _))) m_3_15 m_3_16 m_3_17 m_0_2 m_3_18 (in_pl hx0.1.1 hx0.1.2) rfl hd_yX4_pattern rfl ⟨⟨by decide, by decide⟩, by decide, by decide⟩ (Nat.le_of_ble_eq_true rfl) rfl dL_pattern_3 ?_ ?_
  · intro E9 ce9 q9 w9 H locs hq hP hD hS e1 e2 e3
    obtain ⟨hc9, rfl, hw9⟩ := hq
    rw [hw9] at hP hD
    refine c_catch (pc := 3) (E := nISE) (pre := []) (xr := ⟨0, 8, 11, 15⟩) (suf := []) hC hE (by decide +kernel) (by decide +kernel) rfl (fun _ h => absurd h List.not_mem_nil) (by decide) (by decide) m_2_12 e1 e2 e3 ?_
    refine lv_astore_n (lv' := [(2, .ref q9), (0, .ref x), (1, .ref o)]) (pc := 11) hx hb dL_pattern_11 rfl hl (by decide) rfl (fun ls hl => ?_)
    refine lv_iconst (pc := 12) (v := iv 1) hx hb dL_pattern_12 rfl ?_
    refine c_iret (pc := 13) hC hQ hP hD hS (by decide) (by decide) dL_pattern_13 ?_
    exact Or.inr (⟨hc9, rfl, L, f, ρ, rfl, hR⟩)
  · intro v9 w9 H locs hq hP hD hS
    obtain ⟨hc9, hv_, L2, f2, ρ2, hw_, hR2⟩ := hq
    rw [hw_] at hP hD
    rw [hv_]
    clear hv_ hw_
    dsimp only [Option.toList, List.cons_append, List.nil_append]
    refine lv_i2l (pc := 6) (v := jv (n 1)) hx hb dL_pattern_6 (iv_long _ ⟨by omega, by omega⟩) ?_
    refine r_out (pc := 7) (v := n 1) hC hK hP hD hS dL_pattern_7 (fun H locs hP hD hS => ?_)
    refine lv_goto (pc := 8) (tgt := 14) hx hb dL_pattern_8 (by decide) ?_
    refine lv_iconst (pc := 14) (v := iv 0) hx hb dL_pattern_14 rfl ?_
    refine c_iret (pc := 15) hC hQ hP hD hS (by decide) (by decide) dL_pattern_15 ?_
    exact Or.inl (⟨hc9, rfl, ⟨L2, f2, ρ2, rfl, hR2⟩⟩)

abbrev rm_c_L_period : Room := { frames := 9, cells := 1, slots := 6, locals := 201 }
set_option maxRecDepth 100000 in
set_option maxHeartbeats 4000000 in
theorem c_L_period (l : Launch) (ε : EV) (R9 : va_W) (o : Nat) (g : Nat → Int) (L : List Nat) (f : Nat → va_E) (ρ : Nat → Int) (hst : l.stackTraces = false) (x : Nat) (n : Nat → Int) (G : Nat → Nat → Int) (hR : RX (IP L f ρ) ε x n G) (hI : INV n G) (q : Int) (rq : rg q) : CTW l yL_period cL_period 4 (some .int) [(0, 9, 12, 24)] rm_c_L_period ε [.ref x, .int (iv q), .ref o] ((R9 ++ [(o, eJ ε 1 g)]) ++ va_pl L f) (fun v w => ((0 ≤ q ∧ q < n 1) ∧ v = some (.int (iv 0)) ∧ LOK ε R9 o x (va_up g 0 (G 3 q.toNat)) n G w) ∨ ((¬ (0 ≤ q ∧ q < n 1)) ∧ v = some (.int (iv 1)) ∧ LOK ε R9 o x g n G w)) NX := by
  refine CTW.intro (by decide +kernel) (Nat.le_of_ble_eq_true rfl) ?_
  intro p9 e9 s9 m9 a9 bl9 me9 c9 ls Q9 hC hE hP hD hl hQ
  have hx := hC.1
  have hb := hC.2.1
  have hK := hE.K
  have hS : WS ε s9.heap s9.heap [] := va_S.rf
  have hl : lv_has ls 4 [(0, .ref x), (1, .int (iv q)), (2, .ref o)] := hl
  obtain ⟨H, hH⟩ : ∃ H, H = s9.heap := ⟨_, rfl⟩
  obtain ⟨locs, hlo⟩ : ∃ z : List Loc, z = [] := ⟨_, rfl⟩
  rw [← hH] at hP ⊢
  have hS : WS ε s9.heap H locs := by rw [hH, hlo]; exact hS
  rw [← hlo]
  clear hH hlo
  obtain ⟨dr, aP, aL, aT, aC, Dr, eP, eL, eT, eC, hx0, -⟩ := id hR
  have hnb := hI.NB
  have hRI : RX (IN ((R9 ++ [(o, eJ ε 1 g)]) ++ va_pl L f)) ε x n G := RX.map IP.IN hR
  refine lv_aload_n (pc := 0) hx hb dL_period_0 rfl (lv_at hl 2 rfl) ?_
  refine lv_iconst (pc := 1) (v := iv 0) hx hb dL_period_1 rfl ?_
  refine lv_aload_n (pc := 2) hx hb dL_period_2 rfl (lv_at hl 0 rfl) ?_
  refine lv_iload_n (pc := 3) hx hb dL_period_3 rfl (lv_at hl 1 rfl) ?_
  refine c_callV (pc := 4) (y := yX4_period) (As := [.int (iv q)]) (rest := [.int (iv 0), .ref o]) hC hE hP hD hS hl.1 (c_R_period l ε ((R9 ++ [(o, eJ ε 1 g)]) ++ va_pl L f) hst x n G hRI hI.NB hI.2.1 hI.2.2.1 q rq) m_7_11 m_7_12 m_7_13 m_0_2 m_7_14 (in_pl hx0.1.1 hx0.1.2) rfl hd_yX4_period rfl ⟨⟨by decide, by decide⟩, by decide, by decide⟩ (Nat.le_of_ble_eq_true rfl) rfl dL_period_4 ?_ ?_
  · intro E9 ce9 q9 w9 H locs hq hP hD hS e1 e2 e3
    obtain ⟨hc9, rfl, hw9⟩ := hq
    rw [hw9] at hP hD
    refine c_catch (pc := 4) (E := nIOE) (pre := []) (xr := ⟨0, 9, 12, 24⟩) (suf := []) hC hE (by decide +kernel) (by decide +kernel) rfl (fun _ h => absurd h List.not_mem_nil) (by decide) (by decide) m_7_10 e1 e2 e3 ?_
    refine lv_astore_n (lv' := [(3, .ref q9), (0, .ref x), (1, .int (iv q)), (2, .ref o)]) (pc := 12) hx hb dL_period_12 rfl hl (by decide) rfl (fun ls hl => ?_)
    refine lv_iconst (pc := 13) (v := iv 1) hx hb dL_period_13 rfl ?_
    refine c_iret (pc := 14) hC hQ hP hD hS (by decide) (by decide) dL_period_14 ?_
    exact Or.inr (⟨hc9, rfl, L, f, ρ, rfl, hR⟩)
  · intro v9 w9 H locs hq hP hD hS
    obtain ⟨hc9, hv_, hw_⟩ := hq
    rw [hw_] at hP hD
    rw [hv_]
    clear hv_ hw_
    dsimp only [Option.toList, List.cons_append, List.nil_append]
    have hpe := (hI.2.1.q hc9.1 hc9.2).per
    refine lv_i2l (pc := 7) (v := jv (G 3 q.toNat)) hx hb dL_period_7 (iv_long _ ⟨by omega, by omega⟩) ?_
    refine r_out (pc := 8) (v := G 3 q.toNat) hC hK hP hD hS dL_period_8 (fun H locs hP hD hS => ?_)
    refine lv_goto (pc := 9) (tgt := 15) hx hb dL_period_9 (by decide) ?_
    refine lv_iconst (pc := 15) (v := iv 0) hx hb dL_period_15 rfl ?_
    refine c_iret (pc := 16) hC hQ hP hD hS (by decide) (by decide) dL_period_16 ?_
    exact Or.inl (⟨hc9, rfl, ⟨L, f, ρ, rfl, hR⟩⟩)

abbrev rm_c_L_areAlike : Room := { frames := 9, cells := 2, slots := 12, locals := 202 }
set_option maxRecDepth 100000 in
set_option maxHeartbeats 4000000 in
theorem c_L_areAlike (l : Launch) (ε : EV) (R9 : va_W) (o : Nat) (g : Nat → Int) (L : List Nat) (f : Nat → va_E) (ρ : Nat → Int) (hst : l.stackTraces = false) (x : Nat) (n : Nat → Int) (G : Nat → Nat → Int) (hR : RX (IP L f ρ) ε x n G) (hI : INV n G) (q : Int) (r : Int) (rq : rg q) (rr : rg r) : CTW l yL_areAlike cL_areAlike 5 (some .int) [(0, 17, 20, 24)] rm_c_L_areAlike ε [.ref x, .int (iv q), .int (iv r), .ref o] ((R9 ++ [(o, eJ ε 1 g)]) ++ va_pl L f) (fun v w => (((0 ≤ q ∧ q < n 1) ∧ 0 ≤ r ∧ r < n 1) ∧ v = some (.int (iv 0)) ∧ LOK ε R9 o x (va_up g 0 (bz (tb (PH1 G q r)))) n G w) ∨ ((¬ ((0 ≤ q ∧ q < n 1) ∧ 0 ≤ r ∧ r < n 1)) ∧ v = some (.int (iv 1)) ∧ LOK ε R9 o x g n G w)) NX := by
  refine CTW.intro (by decide +kernel) (Nat.le_of_ble_eq_true rfl) ?_
  intro p9 e9 s9 m9 a9 bl9 me9 c9 ls Q9 hC hE hP hD hl hQ
  have hx := hC.1
  have hb := hC.2.1
  have hK := hE.K
  have hS : WS ε s9.heap s9.heap [] := va_S.rf
  have hl : lv_has ls 5 [(0, .ref x), (1, .int (iv q)), (2, .int (iv r)), (3, .ref o)] := hl
  obtain ⟨H, hH⟩ : ∃ H, H = s9.heap := ⟨_, rfl⟩
  obtain ⟨locs, hlo⟩ : ∃ z : List Loc, z = [] := ⟨_, rfl⟩
  rw [← hH] at hP ⊢
  have hS : WS ε s9.heap H locs := by rw [hH, hlo]; exact hS
  rw [← hlo]
  clear hH hlo
  obtain ⟨dr, aP, aL, aT, aC, Dr, eP, eL, eT, eC, hx0, -⟩ := id hR
  have hnb := hI.NB
  have hRI : RX (IN ((R9 ++ [(o, eJ ε 1 g)]) ++ va_pl L f)) ε x n G := RX.map IP.IN hR
  refine lv_aload_n (pc := 0) hx hb dL_areAlike_0 rfl (lv_at hl 3 rfl) ?_
  refine lv_iconst (pc := 1) (v := iv 0) hx hb dL_areAlike_1 rfl ?_
  refine lv_aload_n (pc := 2) hx hb dL_areAlike_2 rfl (lv_at hl 0 rfl) ?_
  refine lv_iload_n (pc := 3) hx hb dL_areAlike_3 rfl (lv_at hl 1 rfl) ?_
  refine lv_iload_n (pc := 4) hx hb dL_areAlike_4 rfl (lv_at hl 2 rfl) ?_
  refine c_callV (pc := 5) (y := yX4_areAlike) (As := [.int (iv q), .int (iv r)]) (rest := [.int (iv 0), .ref o]) hC hE hP hD hS hl.1 (c_R_areAlike l ε ((R9 ++ [(o, eJ ε 1 g)]) ++ va_pl L f) hst x n G hRI hI.NB hI.2.1 hI.2.2.1 q rq r rr) m_9_4 m_9_5 m_9_6 m_0_2 m_9_7 (in_pl hx0.1.1 hx0.1.2) rfl hd_yX4_areAlike rfl ⟨⟨by decide, by decide⟩, by decide, by decide⟩ (Nat.le_of_ble_eq_true rfl) rfl dL_areAlike_5 ?_ ?_
  · intro E9 ce9 q9 w9 H locs hq hP hD hS e1 e2 e3
    obtain ⟨hc9, rfl, hw9⟩ := hq
    rw [hw9] at hP hD
    refine c_catch (pc := 5) (E := nIOE) (pre := []) (xr := ⟨0, 17, 20, 24⟩) (suf := []) hC hE (by decide +kernel) (by decide +kernel) rfl (fun _ h => absurd h List.not_mem_nil) (by decide) (by decide) m_7_10 e1 e2 e3 ?_
    refine lv_astore (lv' := [(4, .ref q9), (0, .ref x), (1, .int (iv q)), (2, .int (iv r)), (3, .ref o)]) (pc := 20) hx hb dL_areAlike_20 hl (by decide) rfl (fun ls hl => ?_)
    refine lv_iconst (pc := 22) (v := iv 1) hx hb dL_areAlike_22 rfl ?_
    refine c_iret (pc := 23) hC hQ hP hD hS (by decide) (by decide) dL_areAlike_23 ?_
    exact Or.inr (⟨hc9, rfl, L, f, ρ, rfl, hR⟩)
  · intro v9 w9 H locs hq hP hD hS
    obtain ⟨hc9, hv_, hw_⟩ := hq
    rw [hw_] at hP hD
    rw [hv_]
    clear hv_ hw_
    dsimp only [Option.toList, List.cons_append, List.nil_append]
    refine r_if_b0 (pc := 8) (b := tb (PH1 G q r)) hx hb dL_areAlike_8 (tgt := 15) (by decide)  (fun c_8 => ?_) (fun c_8 => ?_)
    · replace c_8 := tb_no c_8
      refine lv_lconst (pc := 15) (v := jv 0) hx hb dL_areAlike_15 (by decide) ?_
      refine r_out (pc := 16) (v := 0) hC hK hP hD hS dL_areAlike_16 (fun H locs hP hD hS => ?_)
      refine lv_goto (pc := 17) (tgt := 24) hx hb dL_areAlike_17 (by decide) ?_
      refine lv_iconst (pc := 24) (v := iv 0) hx hb dL_areAlike_24 rfl ?_
      refine c_iret (pc := 25) hC hQ hP hD hS (by decide) (by decide) dL_areAlike_25 ?_
      exact Or.inl (⟨hc9, rfl, (by rw [tb_f c_8]; exact ⟨L, f, ρ, rfl, hR⟩)⟩)
    · replace c_8 := tb_iff.mp c_8
      refine lv_lconst (pc := 11) (v := jv 1) hx hb dL_areAlike_11 (by decide) ?_
      refine lv_goto (pc := 12) (tgt := 16) hx hb dL_areAlike_12 (by decide) ?_
      refine r_out (pc := 16) (v := 1) hC hK hP hD hS dL_areAlike_16 (fun H locs hP hD hS => ?_)
      refine lv_goto (pc := 17) (tgt := 24) hx hb dL_areAlike_17 (by decide) ?_
      refine lv_iconst (pc := 24) (v := iv 0) hx hb dL_areAlike_24 rfl ?_
      refine c_iret (pc := 25) hC hQ hP hD hS (by decide) (by decide) dL_areAlike_25 ?_
      exact Or.inl (⟨hc9, rfl, (by rw [tb_t c_8]; exact ⟨L, f, ρ, rfl, hR⟩)⟩)

abbrev rm_c_L_areAlikeBySeconds : Room := { frames := 9, cells := 2, slots := 12, locals := 202 }
set_option maxRecDepth 100000 in
set_option maxHeartbeats 4000000 in
theorem c_L_areAlikeBySeconds (l : Launch) (ε : EV) (R9 : va_W) (o : Nat) (g : Nat → Int) (L : List Nat) (f : Nat → va_E) (ρ : Nat → Int) (hst : l.stackTraces = false) (x : Nat) (n : Nat → Int) (G : Nat → Nat → Int) (hR : RX (IP L f ρ) ε x n G) (hI : INV n G) (q : Int) (r : Int) (rq : rg q) (rr : rg r) : CTW l yL_areAlikeBySeconds cL_areAlikeBySeconds 5 (some .int) [(0, 17, 20, 24)] rm_c_L_areAlikeBySeconds ε [.ref x, .int (iv q), .int (iv r), .ref o] ((R9 ++ [(o, eJ ε 1 g)]) ++ va_pl L f) (fun v w => (((0 ≤ q ∧ q < n 1) ∧ 0 ≤ r ∧ r < n 1) ∧ v = some (.int (iv 0)) ∧ LOK ε R9 o x (va_up g 0 (bz (tb (SC1 G q r)))) n G w) ∨ ((¬ ((0 ≤ q ∧ q < n 1) ∧ 0 ≤ r ∧ r < n 1)) ∧ v = some (.int (iv 1)) ∧ LOK ε R9 o x g n G w)) NX := by
  refine CTW.intro (by decide +kernel) (Nat.le_of_ble_eq_true rfl) ?_
  intro p9 e9 s9 m9 a9 bl9 me9 c9 ls Q9 hC hE hP hD hl hQ
  have hx := hC.1
  have hb := hC.2.1
  have hK := hE.K
  have hS : WS ε s9.heap s9.heap [] := va_S.rf
  have hl : lv_has ls 5 [(0, .ref x), (1, .int (iv q)), (2, .int (iv r)), (3, .ref o)] := hl
  obtain ⟨H, hH⟩ : ∃ H, H = s9.heap := ⟨_, rfl⟩
  obtain ⟨locs, hlo⟩ : ∃ z : List Loc, z = [] := ⟨_, rfl⟩
  rw [← hH] at hP ⊢
  have hS : WS ε s9.heap H locs := by rw [hH, hlo]; exact hS
  rw [← hlo]
  clear hH hlo
  obtain ⟨dr, aP, aL, aT, aC, Dr, eP, eL, eT, eC, hx0, -⟩ := id hR
  have hnb := hI.NB
  have hRI : RX (IN ((R9 ++ [(o, eJ ε 1 g)]) ++ va_pl L f)) ε x n G := RX.map IP.IN hR
  refine lv_aload_n (pc := 0) hx hb dL_areAlikeBySeconds_0 rfl (lv_at hl 3 rfl) ?_
  refine lv_iconst (pc := 1) (v := iv 0) hx hb dL_areAlikeBySeconds_1 rfl ?_
  refine lv_aload_n (pc := 2) hx hb dL_areAlikeBySeconds_2 rfl (lv_at hl 0 rfl) ?_
  refine lv_iload_n (pc := 3) hx hb dL_areAlikeBySeconds_3 rfl (lv_at hl 1 rfl) ?_
  refine lv_iload_n (pc := 4) hx hb dL_areAlikeBySeconds_4 rfl (lv_at hl 2 rfl) ?_
  refine c_callV (pc := 5) (y := yX4_areAlikeBySeconds) (As := [.int (iv q), .int (iv r)]) (rest := [.int (iv 0), .ref o]) hC hE hP hD hS hl.1 (c_R_areAlikeBySeconds l ε ((R9 ++ [(o, eJ ε 1 g)]) ++ va_pl L f) hst x n G hRI hI.NB hI.2.1 hI.2.2.1 q rq r rr) m_10_14 m_10_15 m_10_16 m_0_2 m_10_17 (in_pl hx0.1.1 hx0.1.2) rfl hd_yX4_areAlikeBySeconds rfl ⟨⟨by decide, by decide⟩, by decide, by decide⟩ (Nat.le_of_ble_eq_true rfl) rfl dL_areAlikeBySeconds_5 ?_ ?_
  · intro E9 ce9 q9 w9 H locs hq hP hD hS e1 e2 e3
    obtain ⟨hc9, rfl, hw9⟩ := hq
    rw [hw9] at hP hD
    refine c_catch (pc := 5) (E := nIOE) (pre := []) (xr := ⟨0, 17, 20, 24⟩) (suf := []) hC hE (by decide +kernel) (by decide +kernel) rfl (fun _ h => absurd h List.not_mem_nil) (by decide) (by decide) m_7_10 e1 e2 e3 ?_
    refine lv_astore (lv' := [(4, .ref q9), (0, .ref x), (1, .int (iv q)), (2, .int (iv r)), (3, .ref o)]) (pc := 20) hx hb dL_areAlikeBySeconds_20 hl (by decide) rfl (fun ls hl => ?_)
    refine lv_iconst (pc := 22) (v := iv 1) hx hb dL_areAlikeBySeconds_22 rfl ?_
    refine c_iret (pc := 23) hC hQ hP hD hS (by decide) (by decide) dL_areAlikeBySeconds_23 ?_
    exact Or.inr (⟨hc9, rfl, L, f, ρ, rfl, hR⟩)
  · intro v9 w9 H locs hq hP hD hS
    obtain ⟨hc9, hv_, hw_⟩ := hq
    rw [hw_] at hP hD
    rw [hv_]
    clear hv_ hw_
    dsimp only [Option.toList, List.cons_append, List.nil_append]
    refine r_if_b0 (pc := 8) (b := tb (SC1 G q r)) hx hb dL_areAlikeBySeconds_8 (tgt := 15) (by decide)  (fun c_8 => ?_) (fun c_8 => ?_)
    · replace c_8 := tb_no c_8
      refine lv_lconst (pc := 15) (v := jv 0) hx hb dL_areAlikeBySeconds_15 (by decide) ?_
      refine r_out (pc := 16) (v := 0) hC hK hP hD hS dL_areAlikeBySeconds_16 (fun H locs hP hD hS => ?_)
      refine lv_goto (pc := 17) (tgt := 24) hx hb dL_areAlikeBySeconds_17 (by decide) ?_
      refine lv_iconst (pc := 24) (v := iv 0) hx hb dL_areAlikeBySeconds_24 rfl ?_
      refine c_iret (pc := 25) hC hQ hP hD hS (by decide) (by decide) dL_areAlikeBySeconds_25 ?_
      exact Or.inl (⟨hc9, rfl, (by rw [tb_f c_8]; exact ⟨L, f, ρ, rfl, hR⟩)⟩)
    · replace c_8 := tb_iff.mp c_8
      refine lv_lconst (pc := 11) (v := jv 1) hx hb dL_areAlikeBySeconds_11 (by decide) ?_
      refine lv_goto (pc := 12) (tgt := 16) hx hb dL_areAlikeBySeconds_12 (by decide) ?_
      refine r_out (pc := 16) (v := 1) hC hK hP hD hS dL_areAlikeBySeconds_16 (fun H locs hP hD hS => ?_)
      refine lv_goto (pc := 17) (tgt := 24) hx hb dL_areAlikeBySeconds_17 (by decide) ?_
      refine lv_iconst (pc := 24) (v := iv 0) hx hb dL_areAlikeBySeconds_24 rfl ?_
      refine c_iret (pc := 25) hC hQ hP hD hS (by decide) (by decide) dL_areAlikeBySeconds_25 ?_
      exact Or.inl (⟨hc9, rfl, (by rw [tb_t c_8]; exact ⟨L, f, ρ, rfl, hR⟩)⟩)

abbrev rm_c_L_lamp : Room := { frames := 10, cells := 14, slots := 3300, locals := 526 }
set_option maxRecDepth 100000 in
set_option maxHeartbeats 4000000 in
theorem c_L_lamp (l : Launch) (ε : EV) (R9 : va_W) (o : Nat) (g : Nat → Int) (L : List Nat) (f : Nat → va_E) (ρ : Nat → Int) (hst : l.stackTraces = false) (x : Nat) (n : Nat → Int) (G : Nat → Nat → Int) (hR : RX (IP L f ρ) ε x n G) (hI : INV n G) (x9 : Int) (y9 : Int) (q : Int) (rc : Int) (se : Int) (rx9 : rg x9) (ry9 : rg y9) (rq : rg q) (rrc : rg rc) (rse : rg se) (h3 : n 3 < 512) : CTW l yL_lamp cL_lamp 8 (some .int) [(0, 16, 19, 24), (0, 16, 23, 13), (0, 16, 27, 15)] rm_c_L_lamp ε [.ref x, .int (iv x9), .int (iv y9), .int (iv q), .int (iv rc), .int (iv se), .ref o] ((R9 ++ [(o, eJ ε 1 g)]) ++ va_pl L f) (fun v w => ((((0 ≤ q ∧ q < n 1) ∧ (((0 ≤ x9 ∧ x9 ≤ 31) ∧ 0 ≤ y9 ∧ y9 ≤ 31) ∧ (1 ≤ rc ∧ rc ≤ 40) ∧ 1 ≤ se ∧ se ≤ 255)) ∧ n 2 < 12) ∧ v = some (.int (iv 0)) ∧ LOK ε R9 o x (va_up g 0 (n 2)) (va_up (va_up n 2 (n 2 + 1)) 3 (n 3 + 1)) (va_up (GL n G x9 y9 q rc se) 11 (va_up ((GL n G x9 y9 q rc se) 11) ((n 3).toNat) (NV (GL n G x9 y9 q rc se) (n 2)))) w) ∨ ((¬ (0 ≤ q ∧ q < n 1)) ∧ v = some (.int (iv 1)) ∧ LOK ε R9 o x g n G w) ∨ (((0 ≤ q ∧ q < n 1) ∧ ¬ (((0 ≤ x9 ∧ x9 ≤ 31) ∧ 0 ≤ y9 ∧ y9 ≤ 31) ∧ (1 ≤ rc ∧ rc ≤ 40) ∧ 1 ≤ se ∧ se ≤ 255)) ∧ v = some (.int (iv 2)) ∧ LOK ε R9 o x g n G w) ∨ ((((0 ≤ q ∧ q < n 1) ∧ (((0 ≤ x9 ∧ x9 ≤ 31) ∧ 0 ≤ y9 ∧ y9 ≤ 31) ∧ (1 ≤ rc ∧ rc ≤ 40) ∧ 1 ≤ se ∧ se ≤ 255)) ∧ n 2 = 12) ∧ v = some (.int (iv 3)) ∧ LOK ε R9 o x g n G w)) NX := by
  refine CTW.intro (by decide +kernel) (Nat.le_of_ble_eq_true rfl) ?_
  intro p9 e9 s9 m9 a9 bl9 me9 c9 ls Q9 hC hE hP hD hl hQ
  have hx := hC.1
  have hb := hC.2.1
  have hK := hE.K
  have hS : WS ε s9.heap s9.heap [] := va_S.rf
  have hl : lv_has ls 8 [(0, .ref x), (1, .int (iv x9)), (2, .int (iv y9)), (3, .int (iv q)), (4, .int (iv rc)), (5, .int (iv se)), (6, .ref o)] := hl
  obtain ⟨H, hH⟩ : ∃ H, H = s9.heap := ⟨_, rfl⟩
  obtain ⟨locs, hlo⟩ : ∃ z : List Loc, z = [] := ⟨_, rfl⟩
  rw [← hH] at hP ⊢
  have hS : WS ε s9.heap H locs := by rw [hH, hlo]; exact hS
  rw [← hlo]
  clear hH hlo
  obtain ⟨dr, aP, aL, aT, aC, Dr, eP, eL, eT, eC, hx0, -⟩ := id hR
  have hnb := hI.NB
  have hRI : RX (IN ((R9 ++ [(o, eJ ε 1 g)]) ++ va_pl L f)) ε x n G := RX.map IP.IN hR
  refine lv_aload (pc := 0) hx hb dL_lamp_0 (lv_at hl 6 rfl) ?_
  refine lv_iconst (pc := 2) (v := iv 0) hx hb dL_lamp_2 rfl ?_
  refine lv_aload_n (pc := 3) hx hb dL_lamp_3 rfl (lv_at hl 0 rfl) ?_
  refine lv_iload_n (pc := 4) hx hb dL_lamp_4 rfl (lv_at hl 1 rfl) ?_
  refine lv_iload_n (pc := 5) hx hb dL_lamp_5 rfl (lv_at hl 2 rfl) ?_
  refine lv_iload_n (pc := 6) hx hb dL_lamp_6 rfl (lv_at hl 3 rfl) ?_
  refine lv_iload (pc := 7) hx hb dL_lamp_7 (lv_at hl 4 rfl) ?_
  refine lv_iload (pc := 9) hx hb dL_lamp_9 (lv_at hl 5 rfl) ?_
  refine c_callV (pc := 11) (y := yX4_lamp) (As := [.int (iv x9), .int (iv y9), .int (iv q), .int (iv rc), .int (iv se)]) (rest := [.int (iv 0), .ref o]) hC hE hP hD hS hl.1 (c_W_lamp l ε (R9 ++ [(o, eJ ε 1 g)]) L f hst ρ x n G hR hI.NB h3 (hI.2.2.2.2.2.2.1 (n 2) (Int.le_refl _)).1 (hI.2.2.2.2.2.2.1 (n 2) (Int.le_refl _)).2 x9 y9 q rc se rx9 ry9 rq rrc rse) m_11_12 m_11_13 m_11_14 m_0_2 m_11_15 (in_pl hx0.1.1 hx0.1.2) rfl hd_yX4_lamp rfl ⟨⟨by decide, by decide⟩, by decide, by decide⟩ (Nat.le_of_ble_eq_true rfl) rfl dL_lamp_11 ?_ ?_
  · intro E9 ce9 q9 w9 H locs hq hP hD hS e1 e2 e3
    rcases hq with hq | hq | hq
    · obtain ⟨hc9, rfl, hw9⟩ := hq
      rw [hw9] at hP hD
      refine c_catch (pc := 11) (E := nIOE) (pre := []) (xr := ⟨0, 16, 19, 24⟩) (suf := [⟨0, 16, 23, 13⟩, ⟨0, 16, 27, 15⟩]) hC hE (by decide +kernel) (by decide +kernel) rfl (fun _ h => absurd h List.not_mem_nil) (by decide) (by decide) m_7_10 e1 e2 e3 ?_
      refine lv_astore (lv' := [(7, .ref q9), (0, .ref x), (1, .int (iv x9)), (2, .int (iv y9)), (3, .int (iv q)), (4, .int (iv rc)), (5, .int (iv se)), (6, .ref o)]) (pc := 19) hx hb dL_lamp_19 hl (by decide) rfl (fun ls hl => ?_)
      refine lv_iconst (pc := 21) (v := iv 1) hx hb dL_lamp_21 rfl ?_
      refine c_iret (pc := 22) hC hQ hP hD hS (by decide) (by decide) dL_lamp_22 ?_
      exact Or.inr (Or.inl (⟨hc9, rfl, L, f, ρ, rfl, hR⟩))
    · obtain ⟨hc9, rfl, hw9⟩ := hq
      rw [hw9] at hP hD
      refine c_catch (pc := 11) (E := nIAE) (pre := [⟨0, 16, 19, 24⟩]) (xr := ⟨0, 16, 23, 13⟩) (suf := [⟨0, 16, 27, 15⟩]) hC hE (by decide +kernel) (by decide +kernel) rfl (List.forall_mem_cons.mpr ⟨⟨by decide, nIOE, by decide +kernel, by decide +kernel, m_7_10⟩, fun _ h => absurd h List.not_mem_nil⟩) (by decide) (by decide) m_2_11 e1 e2 e3 ?_
      refine lv_astore (lv' := [(7, .ref q9), (0, .ref x), (1, .int (iv x9)), (2, .int (iv y9)), (3, .int (iv q)), (4, .int (iv rc)), (5, .int (iv se)), (6, .ref o)]) (pc := 23) hx hb dL_lamp_23 hl (by decide) rfl (fun ls hl => ?_)
      refine lv_iconst (pc := 25) (v := iv 2) hx hb dL_lamp_25 rfl ?_
      refine c_iret (pc := 26) hC hQ hP hD hS (by decide) (by decide) dL_lamp_26 ?_
      exact Or.inr (Or.inr (Or.inl (⟨hc9, rfl, L, f, ρ, rfl, hR⟩)))
    · obtain ⟨hc9, rfl, hw9⟩ := hq
      rw [hw9] at hP hD
      refine c_catch (pc := 11) (E := nISE) (pre := [⟨0, 16, 19, 24⟩, ⟨0, 16, 23, 13⟩]) (xr := ⟨0, 16, 27, 15⟩) (suf := []) hC hE (by decide +kernel) (by decide +kernel) rfl (List.forall_mem_cons.mpr ⟨⟨by decide, nIOE, by decide +kernel, by decide +kernel, m_7_10⟩, List.forall_mem_cons.mpr ⟨⟨by decide, nIAE, by decide +kernel, by decide +kernel, m_2_11⟩, fun _ h => absurd h List.not_mem_nil⟩⟩) (by decide) (by decide) m_2_12 e1 e2 e3 ?_
      refine lv_astore (lv' := [(7, .ref q9), (0, .ref x), (1, .int (iv x9)), (2, .int (iv y9)), (3, .int (iv q)), (4, .int (iv rc)), (5, .int (iv se)), (6, .ref o)]) (pc := 27) hx hb dL_lamp_27 hl (by decide) rfl (fun ls hl => ?_)
      refine lv_iconst (pc := 29) (v := iv 3) hx hb dL_lamp_29 rfl ?_
      refine c_iret (pc := 30) hC hQ hP hD hS (by decide) (by decide) dL_lamp_30 ?_
      exact Or.inr (Or.inr (Or.inr (⟨hc9, rfl, L, f, ρ, rfl, hR⟩)))
  · intro v9 w9 H locs hq hP hD hS
    obtain ⟨hc9, hv_, L2, f2, ρ2, hw_, hR2⟩ := hq
    rw [hw_] at hP hD
    rw [hv_]
    clear hv_ hw_
    dsimp only [Option.toList, List.cons_append, List.nil_append]
    refine lv_i2l (pc := 14) (v := jv (n 2)) hx hb dL_lamp_14 (iv_long _ ⟨by omega, by omega⟩) ?_
    refine r_out (pc := 15) (v := n 2) hC hK hP hD hS dL_lamp_15 (fun H locs hP hD hS => ?_)
    refine lv_goto (pc := 16) (tgt := 31) hx hb dL_lamp_16 (by decide) ?_
    refine lv_iconst (pc := 31) (v := iv 0) hx hb dL_lamp_31 rfl ?_
    refine c_iret (pc := 32) hC hQ hP hD hS (by decide) (by decide) dL_lamp_32 ?_
    exact Or.inl (⟨hc9, rfl, ⟨L2, f2, ρ2, rfl, hR2⟩⟩)

abbrev rm_c_L_change : Room := { frames := 10, cells := 8, slots := 1100, locals := 424 }
set_option maxRecDepth 100000 in
set_option maxHeartbeats 4000000 in
theorem c_L_change (l : Launch) (ε : EV) (R9 : va_W) (o : Nat) (g : Nat → Int) (L : List Nat) (f : Nat → va_E) (ρ : Nat → Int) (hst : l.stackTraces = false) (x : Nat) (n : Nat → Int) (G : Nat → Nat → Int) (hR : RX (IP L f ρ) ε x n G) (hI : INV n G) (i : Int) (q : Int) (bg : Int) (ri : rg i) (rq : rg q) (rbg : rg bg) (h3 : n 3 < 512) : CTW l yL_change cL_change 6 (some .int) [(0, 12, 15, 24), (0, 12, 19, 13)] rm_c_L_change ε [.ref x, .int (iv i), .int (iv q), .int (iv bg), .ref o] ((R9 ++ [(o, eJ ε 1 g)]) ++ va_pl L f) (fun v w => ((((0 ≤ i ∧ i < n 2) ∧ (0 ≤ q ∧ q < n 1)) ∧ (0 ≤ bg ∧ bg ≤ 59)) ∧ v = some (.int (iv 0)) ∧ LOK ε R9 o x (va_up g 0 (n 3)) (va_up n 3 (n 3 + 1)) (va_up (va_up (va_up G 6 (va_up (G 6) i.toNat q)) 7 (va_up ((va_up G 6 (va_up (G 6) i.toNat q)) 7) i.toNat bg)) 11 (va_up ((va_up (va_up G 6 (va_up (G 6) i.toNat q)) 7 (va_up ((va_up G 6 (va_up (G 6) i.toNat q)) 7) i.toNat bg)) 11) ((n 3).toNat) (NV (va_up (va_up G 6 (va_up (G 6) i.toNat q)) 7 (va_up ((va_up G 6 (va_up (G 6) i.toNat q)) 7) i.toNat bg)) i))) w) ∨ ((¬ ((0 ≤ i ∧ i < n 2) ∧ (0 ≤ q ∧ q < n 1))) ∧ v = some (.int (iv 1)) ∧ LOK ε R9 o x g n G w) ∨ ((((0 ≤ i ∧ i < n 2) ∧ (0 ≤ q ∧ q < n 1)) ∧ ¬ (0 ≤ bg ∧ bg ≤ 59)) ∧ v = some (.int (iv 2)) ∧ LOK ε R9 o x g n G w)) NX := by
  refine CTW.intro (by decide +kernel) (Nat.le_of_ble_eq_true rfl) ?_
  intro p9 e9 s9 m9 a9 bl9 me9 c9 ls Q9 hC hE hP hD hl hQ
  have hx := hC.1
  have hb := hC.2.1
  have hK := hE.K
  have hS : WS ε s9.heap s9.heap [] := va_S.rf
  have hl : lv_has ls 6 [(0, .ref x), (1, .int (iv i)), (2, .int (iv q)), (3, .int (iv bg)), (4, .ref o)] := hl
  obtain ⟨H, hH⟩ : ∃ H, H = s9.heap := ⟨_, rfl⟩
  obtain ⟨locs, hlo⟩ : ∃ z : List Loc, z = [] := ⟨_, rfl⟩
  rw [← hH] at hP ⊢
  have hS : WS ε s9.heap H locs := by rw [hH, hlo]; exact hS
  rw [← hlo]
  clear hH hlo
  obtain ⟨dr, aP, aL, aT, aC, Dr, eP, eL, eT, eC, hx0, -⟩ := id hR
  have hnb := hI.NB
  have hRI : RX (IN ((R9 ++ [(o, eJ ε 1 g)]) ++ va_pl L f)) ε x n G := RX.map IP.IN hR
  refine lv_aload (pc := 0) hx hb dL_change_0 (lv_at hl 4 rfl) ?_
  refine lv_iconst (pc := 2) (v := iv 0) hx hb dL_change_2 rfl ?_
  refine lv_aload_n (pc := 3) hx hb dL_change_3 rfl (lv_at hl 0 rfl) ?_
  refine lv_iload_n (pc := 4) hx hb dL_change_4 rfl (lv_at hl 1 rfl) ?_
  refine lv_iload_n (pc := 5) hx hb dL_change_5 rfl (lv_at hl 2 rfl) ?_
  refine lv_iload_n (pc := 6) hx hb dL_change_6 rfl (lv_at hl 3 rfl) ?_
  refine c_callV (pc := 7) (y := yX4_change) (As := [.int (iv i), .int (iv q), .int (iv bg)]) (rest := [.int (iv 0), .ref o]) hC hE hP hD hS hl.1 (c_W_change l ε (R9 ++ [(o, eJ ε 1 g)]) L f hst ρ x n G hR hI.NB hI.2.2.1 h3 i q bg ri rq rbg) m_14_9 m_14_10 m_14_11 m_0_2 m_14_12 (in_pl hx0.1.1 hx0.1.2) rfl hd_yX4_change rfl ⟨⟨by decide, by decide⟩, by decide, by decide⟩ (Nat.le_of_ble_eq_true rfl) rfl dL_change_7 ?_ ?_
  · intro E9 ce9 q9 w9 H locs hq hP hD hS e1 e2 e3
    rcases hq with hq | hq
    · obtain ⟨hc9, rfl, hw9⟩ := hq
      rw [hw9] at hP hD
      refine c_catch (pc := 7) (E := nIOE) (pre := []) (xr := ⟨0, 12, 15, 24⟩) (suf := [⟨0, 12, 19, 13⟩]) hC hE (by decide +kernel) (by decide +kernel) rfl (fun _ h => absurd h List.not_mem_nil) (by decide) (by decide) m_7_10 e1 e2 e3 ?_
      refine lv_astore (lv' := [(5, .ref q9), (0, .ref x), (1, .int (iv i)), (2, .int (iv q)), (3, .int (iv bg)), (4, .ref o)]) (pc := 15) hx hb dL_change_15 hl (by decide) rfl (fun ls hl => ?_)
      refine lv_iconst (pc := 17) (v := iv 1) hx hb dL_change_17 rfl ?_
      refine c_iret (pc := 18) hC hQ hP hD hS (by decide) (by decide) dL_change_18 ?_
      exact Or.inr (Or.inl (⟨hc9, rfl, L, f, ρ, rfl, hR⟩))
    · obtain ⟨hc9, rfl, hw9⟩ := hq
      rw [hw9] at hP hD
      refine c_catch (pc := 7) (E := nIAE) (pre := [⟨0, 12, 15, 24⟩]) (xr := ⟨0, 12, 19, 13⟩) (suf := []) hC hE (by decide +kernel) (by decide +kernel) rfl (List.forall_mem_cons.mpr ⟨⟨by decide, nIOE, by decide +kernel, by decide +kernel, m_7_10⟩, fun _ h => absurd h List.not_mem_nil⟩) (by decide) (by decide) m_2_11 e1 e2 e3 ?_
      refine lv_astore (lv' := [(5, .ref q9), (0, .ref x), (1, .int (iv i)), (2, .int (iv q)), (3, .int (iv bg)), (4, .ref o)]) (pc := 19) hx hb dL_change_19 hl (by decide) rfl (fun ls hl => ?_)
      refine lv_iconst (pc := 21) (v := iv 2) hx hb dL_change_21 rfl ?_
      refine c_iret (pc := 22) hC hQ hP hD hS (by decide) (by decide) dL_change_22 ?_
      exact Or.inr (Or.inr (⟨hc9, rfl, L, f, ρ, rfl, hR⟩))
  · intro v9 w9 H locs hq hP hD hS
    obtain ⟨hc9, hv_, L2, f2, ρ2, hw_, hR2⟩ := hq
    rw [hw_] at hP hD
    rw [hv_]
    clear hv_ hw_
    dsimp only [Option.toList, List.cons_append, List.nil_append]
    refine lv_i2l (pc := 10) (v := jv (n 3)) hx hb dL_change_10 (iv_long _ ⟨by omega, by omega⟩) ?_
    refine r_out (pc := 11) (v := n 3) hC hK hP hD hS dL_change_11 (fun H locs hP hD hS => ?_)
    refine lv_goto (pc := 12) (tgt := 23) hx hb dL_change_12 (by decide) ?_
    refine lv_iconst (pc := 23) (v := iv 0) hx hb dL_change_23 rfl ?_
    refine c_iret (pc := 24) hC hQ hP hD hS (by decide) (by decide) dL_change_24 ?_
    exact Or.inl (⟨hc9, rfl, ⟨L2, f2, ρ2, rfl, hR2⟩⟩)

abbrev rm_c_L_fail : Room := { frames := 10, cells := 8, slots := 1100, locals := 423 }
set_option maxRecDepth 100000 in
set_option maxHeartbeats 4000000 in
theorem c_L_fail (l : Launch) (ε : EV) (R9 : va_W) (o : Nat) (g : Nat → Int) (L : List Nat) (f : Nat → va_E) (ρ : Nat → Int) (hst : l.stackTraces = false) (x : Nat) (n : Nat → Int) (G : Nat → Nat → Int) (hR : RX (IP L f ρ) ε x n G) (hI : INV n G) (i : Int) (fb : Int) (ri : rg i) (rfb : rg fb) (hfb : fb = 0 ∨ fb = 1) (h3 : n 3 < 512) : CTW l yL_fail cL_fail 5 (some .int) [(0, 10, 13, 24), (0, 10, 17, 15)] rm_c_L_fail ε [.ref x, .int (iv i), .int (iv fb), .ref o] ((R9 ++ [(o, eJ ε 1 g)]) ++ va_pl L f) (fun v w => (((0 ≤ i ∧ i < n 2) ∧ G 10 i.toNat ≠ fb) ∧ v = some (.int (iv 0)) ∧ LOK ε R9 o x (va_up g 0 (n 3)) (va_up n 3 (n 3 + 1)) (va_up (va_up G 10 (va_up (G 10) i.toNat fb)) 11 (va_up ((va_up G 10 (va_up (G 10) i.toNat fb)) 11) ((n 3).toNat) (NV (va_up G 10 (va_up (G 10) i.toNat fb)) i))) w) ∨ ((¬ (0 ≤ i ∧ i < n 2)) ∧ v = some (.int (iv 1)) ∧ LOK ε R9 o x g n G w) ∨ (((0 ≤ i ∧ i < n 2) ∧ G 10 i.toNat = fb) ∧ v = some (.int (iv 2)) ∧ LOK ε R9 o x g n G w)) NX := by
  refine CTW.intro (by decide +kernel) (Nat.le_of_ble_eq_true rfl) ?_
  intro p9 e9 s9 m9 a9 bl9 me9 c9 ls Q9 hC hE hP hD hl hQ
  have hx := hC.1
  have hb := hC.2.1
  have hK := hE.K
  have hS : WS ε s9.heap s9.heap [] := va_S.rf
  have hl : lv_has ls 5 [(0, .ref x), (1, .int (iv i)), (2, .int (iv fb)), (3, .ref o)] := hl
  obtain ⟨H, hH⟩ : ∃ H, H = s9.heap := ⟨_, rfl⟩
  obtain ⟨locs, hlo⟩ : ∃ z : List Loc, z = [] := ⟨_, rfl⟩
  rw [← hH] at hP ⊢
  have hS : WS ε s9.heap H locs := by rw [hH, hlo]; exact hS
  rw [← hlo]
  clear hH hlo
  obtain ⟨dr, aP, aL, aT, aC, Dr, eP, eL, eT, eC, hx0, -⟩ := id hR
  have hnb := hI.NB
  have hRI : RX (IN ((R9 ++ [(o, eJ ε 1 g)]) ++ va_pl L f)) ε x n G := RX.map IP.IN hR
  refine lv_aload_n (pc := 0) hx hb dL_fail_0 rfl (lv_at hl 3 rfl) ?_
  refine lv_iconst (pc := 1) (v := iv 0) hx hb dL_fail_1 rfl ?_
  refine lv_aload_n (pc := 2) hx hb dL_fail_2 rfl (lv_at hl 0 rfl) ?_
  refine lv_iload_n (pc := 3) hx hb dL_fail_3 rfl (lv_at hl 1 rfl) ?_
  refine lv_iload_n (pc := 4) hx hb dL_fail_4 rfl (lv_at hl 2 rfl) ?_
  refine c_callV (pc := 5) (y := yX4_fail) (As := [.int (iv i), .int (iv fb)]) (rest := [.int (iv 0), .ref o]) hC hE hP hD hS hl.1 (c_W_fail l ε (R9 ++ [(o, eJ ε 1 g)]) L f hst ρ x n G hR hI.NB hI.2.2.1 h3 i fb ri hfb) m_15_0 m_15_1 m_15_2 m_0_2 m_15_3 (in_pl hx0.1.1 hx0.1.2) rfl hd_yX4_fail rfl ⟨⟨by decide, by decide⟩, by decide, by decide⟩ (Nat.le_of_ble_eq_true rfl) rfl dL_fail_5 ?_ ?_
  · intro E9 ce9 q9 w9 H locs hq hP hD hS e1 e2 e3
    rcases hq with hq | hq
    · obtain ⟨hc9, rfl, hw9⟩ := hq
      rw [hw9] at hP hD
      refine c_catch (pc := 5) (E := nIOE) (pre := []) (xr := ⟨0, 10, 13, 24⟩) (suf := [⟨0, 10, 17, 15⟩]) hC hE (by decide +kernel) (by decide +kernel) rfl (fun _ h => absurd h List.not_mem_nil) (by decide) (by decide) m_7_10 e1 e2 e3 ?_
      refine lv_astore (lv' := [(4, .ref q9), (0, .ref x), (1, .int (iv i)), (2, .int (iv fb)), (3, .ref o)]) (pc := 13) hx hb dL_fail_13 hl (by decide) rfl (fun ls hl => ?_)
      refine lv_iconst (pc := 15) (v := iv 1) hx hb dL_fail_15 rfl ?_
      refine c_iret (pc := 16) hC hQ hP hD hS (by decide) (by decide) dL_fail_16 ?_
      exact Or.inr (Or.inl (⟨hc9, rfl, L, f, ρ, rfl, hR⟩))
    · obtain ⟨hc9, rfl, hw9⟩ := hq
      rw [hw9] at hP hD
      refine c_catch (pc := 5) (E := nISE) (pre := [⟨0, 10, 13, 24⟩]) (xr := ⟨0, 10, 17, 15⟩) (suf := []) hC hE (by decide +kernel) (by decide +kernel) rfl (List.forall_mem_cons.mpr ⟨⟨by decide, nIOE, by decide +kernel, by decide +kernel, m_7_10⟩, fun _ h => absurd h List.not_mem_nil⟩) (by decide) (by decide) m_2_12 e1 e2 e3 ?_
      refine lv_astore (lv' := [(4, .ref q9), (0, .ref x), (1, .int (iv i)), (2, .int (iv fb)), (3, .ref o)]) (pc := 17) hx hb dL_fail_17 hl (by decide) rfl (fun ls hl => ?_)
      refine lv_iconst (pc := 19) (v := iv 2) hx hb dL_fail_19 rfl ?_
      refine c_iret (pc := 20) hC hQ hP hD hS (by decide) (by decide) dL_fail_20 ?_
      exact Or.inr (Or.inr (⟨hc9, rfl, L, f, ρ, rfl, hR⟩))
  · intro v9 w9 H locs hq hP hD hS
    obtain ⟨hc9, hv_, L2, f2, ρ2, hw_, hR2⟩ := hq
    rw [hw_] at hP hD
    rw [hv_]
    clear hv_ hw_
    dsimp only [Option.toList, List.cons_append, List.nil_append]
    refine lv_i2l (pc := 8) (v := jv (n 3)) hx hb dL_fail_8 (iv_long _ ⟨by omega, by omega⟩) ?_
    refine r_out (pc := 9) (v := n 3) hC hK hP hD hS dL_fail_9 (fun H locs hP hD hS => ?_)
    refine lv_goto (pc := 10) (tgt := 21) hx hb dL_fail_10 (by decide) ?_
    refine lv_iconst (pc := 21) (v := iv 0) hx hb dL_fail_21 rfl ?_
    refine c_iret (pc := 22) hC hQ hP hD hS (by decide) (by decide) dL_fail_22 ?_
    exact Or.inl (⟨hc9, rfl, ⟨L2, f2, ρ2, rfl, hR2⟩⟩)

abbrev rm_c_L_shines : Room := { frames := 9, cells := 2, slots := 12, locals := 203 }
set_option maxRecDepth 100000 in
set_option maxHeartbeats 4000000 in
theorem c_L_shines (l : Launch) (ε : EV) (R9 : va_W) (o : Nat) (g : Nat → Int) (L : List Nat) (f : Nat → va_E) (ρ : Nat → Int) (hst : l.stackTraces = false) (x : Nat) (n : Nat → Int) (G : Nat → Nat → Int) (hR : RX (IP L f ρ) ε x n G) (hI : INV n G) (i : Int) (t : Int) (ri : rg i) (rt : rg t) : CTW l yL_shines cL_shines 5 (some .int) [(0, 17, 20, 24), (0, 17, 24, 13)] rm_c_L_shines ε [.ref x, .int (iv i), .int (iv t), .ref o] ((R9 ++ [(o, eJ ε 1 g)]) ++ va_pl L f) (fun v w => (((0 ≤ i ∧ i < n 2) ∧ (0 ≤ t ∧ t ≤ 100000)) ∧ v = some (.int (iv 0)) ∧ LOK ε R9 o x (va_up g 0 (bz (ON G i t))) n G w) ∨ ((¬ (0 ≤ i ∧ i < n 2)) ∧ v = some (.int (iv 1)) ∧ LOK ε R9 o x g n G w) ∨ (((0 ≤ i ∧ i < n 2) ∧ ¬ (0 ≤ t ∧ t ≤ 100000)) ∧ v = some (.int (iv 2)) ∧ LOK ε R9 o x g n G w)) NX := by
  refine CTW.intro (by decide +kernel) (Nat.le_of_ble_eq_true rfl) ?_
  intro p9 e9 s9 m9 a9 bl9 me9 c9 ls Q9 hC hE hP hD hl hQ
  have hx := hC.1
  have hb := hC.2.1
  have hK := hE.K
  have hS : WS ε s9.heap s9.heap [] := va_S.rf
  have hl : lv_has ls 5 [(0, .ref x), (1, .int (iv i)), (2, .int (iv t)), (3, .ref o)] := hl
  obtain ⟨H, hH⟩ : ∃ H, H = s9.heap := ⟨_, rfl⟩
  obtain ⟨locs, hlo⟩ : ∃ z : List Loc, z = [] := ⟨_, rfl⟩
  rw [← hH] at hP ⊢
  have hS : WS ε s9.heap H locs := by rw [hH, hlo]; exact hS
  rw [← hlo]
  clear hH hlo
  obtain ⟨dr, aP, aL, aT, aC, Dr, eP, eL, eT, eC, hx0, -⟩ := id hR
  have hnb := hI.NB
  have hRI : RX (IN ((R9 ++ [(o, eJ ε 1 g)]) ++ va_pl L f)) ε x n G := RX.map IP.IN hR
  refine lv_aload_n (pc := 0) hx hb dL_shines_0 rfl (lv_at hl 3 rfl) ?_
  refine lv_iconst (pc := 1) (v := iv 0) hx hb dL_shines_1 rfl ?_
  refine lv_aload_n (pc := 2) hx hb dL_shines_2 rfl (lv_at hl 0 rfl) ?_
  refine lv_iload_n (pc := 3) hx hb dL_shines_3 rfl (lv_at hl 1 rfl) ?_
  refine lv_iload_n (pc := 4) hx hb dL_shines_4 rfl (lv_at hl 2 rfl) ?_
  refine c_callV (pc := 5) (y := yX4_shines) (As := [.int (iv i), .int (iv t)]) (rest := [.int (iv 0), .ref o]) hC hE hP hD hS hl.1 (c_R_shines l ε ((R9 ++ [(o, eJ ε 1 g)]) ++ va_pl L f) hst x n G hRI hI.NB hI.2.1 hI.2.2.1 i ri t rt) m_15_11 m_15_12 m_15_13 m_0_2 m_15_14 (in_pl hx0.1.1 hx0.1.2) rfl hd_yX4_shines rfl ⟨⟨by decide, by decide⟩, by decide, by decide⟩ (Nat.le_of_ble_eq_true rfl) rfl dL_shines_5 ?_ ?_
  · intro E9 ce9 q9 w9 H locs hq hP hD hS e1 e2 e3
    rcases hq with hq | hq
    · obtain ⟨hc9, rfl, hw9⟩ := hq
      rw [hw9] at hP hD
      refine c_catch (pc := 5) (E := nIOE) (pre := []) (xr := ⟨0, 17, 20, 24⟩) (suf := [⟨0, 17, 24, 13⟩]) hC hE (by decide +kernel) (by decide +kernel) rfl (fun _ h => absurd h List.not_mem_nil) (by decide) (by decide) m_7_10 e1 e2 e3 ?_
      refine lv_astore (lv' := [(4, .ref q9), (0, .ref x), (1, .int (iv i)), (2, .int (iv t)), (3, .ref o)]) (pc := 20) hx hb dL_shines_20 hl (by decide) rfl (fun ls hl => ?_)
      refine lv_iconst (pc := 22) (v := iv 1) hx hb dL_shines_22 rfl ?_
      refine c_iret (pc := 23) hC hQ hP hD hS (by decide) (by decide) dL_shines_23 ?_
      exact Or.inr (Or.inl (⟨hc9, rfl, L, f, ρ, rfl, hR⟩))
    · obtain ⟨hc9, rfl, hw9⟩ := hq
      rw [hw9] at hP hD
      refine c_catch (pc := 5) (E := nIAE) (pre := [⟨0, 17, 20, 24⟩]) (xr := ⟨0, 17, 24, 13⟩) (suf := []) hC hE (by decide +kernel) (by decide +kernel) rfl (List.forall_mem_cons.mpr ⟨⟨by decide, nIOE, by decide +kernel, by decide +kernel, m_7_10⟩, fun _ h => absurd h List.not_mem_nil⟩) (by decide) (by decide) m_2_11 e1 e2 e3 ?_
      refine lv_astore (lv' := [(4, .ref q9), (0, .ref x), (1, .int (iv i)), (2, .int (iv t)), (3, .ref o)]) (pc := 24) hx hb dL_shines_24 hl (by decide) rfl (fun ls hl => ?_)
      refine lv_iconst (pc := 26) (v := iv 2) hx hb dL_shines_26 rfl ?_
      refine c_iret (pc := 27) hC hQ hP hD hS (by decide) (by decide) dL_shines_27 ?_
      exact Or.inr (Or.inr (⟨hc9, rfl, L, f, ρ, rfl, hR⟩))
  · intro v9 w9 H locs hq hP hD hS
    obtain ⟨hc9, hv_, hw_⟩ := hq
    rw [hw_] at hP hD
    rw [hv_]
    clear hv_ hw_
    dsimp only [Option.toList, List.cons_append, List.nil_append]
    refine r_if_b0 (pc := 8) (b := ON G i t) hx hb dL_shines_8 (tgt := 15) (by decide)  (fun c_8 => ?_) (fun c_8 => ?_)
    · have c_8_ := c_8
      refine lv_lconst (pc := 15) (v := jv 0) hx hb dL_shines_15 (by decide) ?_
      refine r_out (pc := 16) (v := 0) hC hK hP hD hS dL_shines_16 (fun H locs hP hD hS => ?_)
      refine lv_goto (pc := 17) (tgt := 28) hx hb dL_shines_17 (by decide) ?_
      refine lv_iconst (pc := 28) (v := iv 0) hx hb dL_shines_28 rfl ?_
      refine c_iret (pc := 29) hC hQ hP hD hS (by decide) (by decide) dL_shines_29 ?_
      exact Or.inl (⟨hc9, rfl, (by rw [c_8]; exact ⟨L, f, ρ, rfl, hR⟩)⟩)
    · have c_8_ := c_8
      refine lv_lconst (pc := 11) (v := jv 1) hx hb dL_shines_11 (by decide) ?_
      refine lv_goto (pc := 12) (tgt := 16) hx hb dL_shines_12 (by decide) ?_
      refine r_out (pc := 16) (v := 1) hC hK hP hD hS dL_shines_16 (fun H locs hP hD hS => ?_)
      refine lv_goto (pc := 17) (tgt := 28) hx hb dL_shines_17 (by decide) ?_
      refine lv_iconst (pc := 28) (v := iv 0) hx hb dL_shines_28 rfl ?_
      refine c_iret (pc := 29) hC hQ hP hD hS (by decide) (by decide) dL_shines_29 ?_
      exact Or.inl (⟨hc9, rfl, (by rw [c_8]; exact ⟨L, f, ρ, rfl, hR⟩)⟩)

abbrev rm_c_L_sector : Room := { frames := 9, cells := 3, slots := 18, locals := 204 }
set_option maxRecDepth 100000 in
set_option maxHeartbeats 4000000 in
theorem c_L_sector (l : Launch) (ε : EV) (R9 : va_W) (o : Nat) (g : Nat → Int) (L : List Nat) (f : Nat → va_E) (ρ : Nat → Int) (hst : l.stackTraces = false) (x : Nat) (n : Nat → Int) (G : Nat → Nat → Int) (hR : RX (IP L f ρ) ε x n G) (hI : INV n G) (i : Int) (x9 : Int) (y9 : Int) (ri : rg i) (rx9 : rg x9) (ry9 : rg y9) : CTW l yL_sector cL_sector 6 (some .int) [(0, 12, 15, 24), (0, 12, 19, 13)] rm_c_L_sector ε [.ref x, .int (iv i), .int (iv x9), .int (iv y9), .ref o] ((R9 ++ [(o, eJ ε 1 g)]) ++ va_pl L f) (fun v w => (((0 ≤ i ∧ i < n 2) ∧ (0 ≤ x9 ∧ x9 ≤ 31) ∧ 0 ≤ y9 ∧ y9 ≤ 31) ∧ v = some (.int (iv 0)) ∧ LOK ε R9 o x (va_up g 0 (sectP (x9 - G 4 i.toNat) (y9 - G 5 i.toNat))) n G w) ∨ ((¬ (0 ≤ i ∧ i < n 2)) ∧ v = some (.int (iv 1)) ∧ LOK ε R9 o x g n G w) ∨ (((0 ≤ i ∧ i < n 2) ∧ ¬ ((0 ≤ x9 ∧ x9 ≤ 31) ∧ 0 ≤ y9 ∧ y9 ≤ 31)) ∧ v = some (.int (iv 2)) ∧ LOK ε R9 o x g n G w)) NX := by
  refine CTW.intro (by decide +kernel) (Nat.le_of_ble_eq_true rfl) ?_
  intro p9 e9 s9 m9 a9 bl9 me9 c9 ls Q9 hC hE hP hD hl hQ
  have hx := hC.1
  have hb := hC.2.1
  have hK := hE.K
  have hS : WS ε s9.heap s9.heap [] := va_S.rf
  have hl : lv_has ls 6 [(0, .ref x), (1, .int (iv i)), (2, .int (iv x9)), (3, .int (iv y9)), (4, .ref o)] := hl
  obtain ⟨H, hH⟩ : ∃ H, H = s9.heap := ⟨_, rfl⟩
  obtain ⟨locs, hlo⟩ : ∃ z : List Loc, z = [] := ⟨_, rfl⟩
  rw [← hH] at hP ⊢
  have hS : WS ε s9.heap H locs := by rw [hH, hlo]; exact hS
  rw [← hlo]
  clear hH hlo
  obtain ⟨dr, aP, aL, aT, aC, Dr, eP, eL, eT, eC, hx0, -⟩ := id hR
  have hnb := hI.NB
  have hRI : RX (IN ((R9 ++ [(o, eJ ε 1 g)]) ++ va_pl L f)) ε x n G := RX.map IP.IN hR
  refine lv_aload (pc := 0) hx hb dL_sector_0 (lv_at hl 4 rfl) ?_
  refine lv_iconst (pc := 2) (v := iv 0) hx hb dL_sector_2 rfl ?_
  refine lv_aload_n (pc := 3) hx hb dL_sector_3 rfl (lv_at hl 0 rfl) ?_
  refine lv_iload_n (pc := 4) hx hb dL_sector_4 rfl (lv_at hl 1 rfl) ?_
  refine lv_iload_n (pc := 5) hx hb dL_sector_5 rfl (lv_at hl 2 rfl) ?_
  refine lv_iload_n (pc := 6) hx hb dL_sector_6 rfl (lv_at hl 3 rfl) ?_
  refine c_callV (pc := 7) (y := yX4_sector) (As := [.int (iv i), .int (iv x9), .int (iv y9)]) (rest := [.int (iv 0), .ref o]) hC hE hP hD hS hl.1 (c_R_sector l ε ((R9 ++ [(o, eJ ε 1 g)]) ++ va_pl L f) hst x n G hRI hI.NB hI.2.1 hI.2.2.1 i ri x9 y9 rx9 ry9) m_16_8 m_16_9 m_16_10 m_0_2 m_16_11 (in_pl hx0.1.1 hx0.1.2) rfl hd_yX4_sector rfl ⟨⟨by decide, by decide⟩, by decide, by decide⟩ (Nat.le_of_ble_eq_true rfl) rfl dL_sector_7 ?_ ?_
  · intro E9 ce9 q9 w9 H locs hq hP hD hS e1 e2 e3
    rcases hq with hq | hq
    · obtain ⟨hc9, rfl, hw9⟩ := hq
      rw [hw9] at hP hD
      refine c_catch (pc := 7) (E := nIOE) (pre := []) (xr := ⟨0, 12, 15, 24⟩) (suf := [⟨0, 12, 19, 13⟩]) hC hE (by decide +kernel) (by decide +kernel) rfl (fun _ h => absurd h List.not_mem_nil) (by decide) (by decide) m_7_10 e1 e2 e3 ?_
      refine lv_astore (lv' := [(5, .ref q9), (0, .ref x), (1, .int (iv i)), (2, .int (iv x9)), (3, .int (iv y9)), (4, .ref o)]) (pc := 15) hx hb dL_sector_15 hl (by decide) rfl (fun ls hl => ?_)
      refine lv_iconst (pc := 17) (v := iv 1) hx hb dL_sector_17 rfl ?_
      refine c_iret (pc := 18) hC hQ hP hD hS (by decide) (by decide) dL_sector_18 ?_
      exact Or.inr (Or.inl (⟨hc9, rfl, L, f, ρ, rfl, hR⟩))
    · obtain ⟨hc9, rfl, hw9⟩ := hq
      rw [hw9] at hP hD
      refine c_catch (pc := 7) (E := nIAE) (pre := [⟨0, 12, 15, 24⟩]) (xr := ⟨0, 12, 19, 13⟩) (suf := []) hC hE (by decide +kernel) (by decide +kernel) rfl (List.forall_mem_cons.mpr ⟨⟨by decide, nIOE, by decide +kernel, by decide +kernel, m_7_10⟩, fun _ h => absurd h List.not_mem_nil⟩) (by decide) (by decide) m_2_11 e1 e2 e3 ?_
      refine lv_astore (lv' := [(5, .ref q9), (0, .ref x), (1, .int (iv i)), (2, .int (iv x9)), (3, .int (iv y9)), (4, .ref o)]) (pc := 19) hx hb dL_sector_19 hl (by decide) rfl (fun ls hl => ?_)
      refine lv_iconst (pc := 21) (v := iv 2) hx hb dL_sector_21 rfl ?_
      refine c_iret (pc := 22) hC hQ hP hD hS (by decide) (by decide) dL_sector_22 ?_
      exact Or.inr (Or.inr (⟨hc9, rfl, L, f, ρ, rfl, hR⟩))
  · intro v9 w9 H locs hq hP hD hS
    obtain ⟨hc9, hv_, hw_⟩ := hq
    rw [hw_] at hP hD
    rw [hv_]
    clear hv_ hw_
    dsimp only [Option.toList, List.cons_append, List.nil_append]
    have hsp := sectP_bd (x9 - G 4 i.toNat) (y9 - G 5 i.toNat)
    refine lv_i2l (pc := 10) (v := jv (sectP (x9 - G 4 i.toNat) (y9 - G 5 i.toNat))) hx hb dL_sector_10 (iv_long _ ⟨by omega, by omega⟩) ?_
    refine r_out (pc := 11) (v := sectP (x9 - G 4 i.toNat) (y9 - G 5 i.toNat)) hC hK hP hD hS dL_sector_11 (fun H locs hP hD hS => ?_)
    refine lv_goto (pc := 12) (tgt := 23) hx hb dL_sector_12 (by decide) ?_
    refine lv_iconst (pc := 23) (v := iv 0) hx hb dL_sector_23 rfl ?_
    refine c_iret (pc := 24) hC hQ hP hD hS (by decide) (by decide) dL_sector_24 ?_
    exact Or.inl (⟨hc9, rfl, ⟨L, f, ρ, rfl, hR⟩⟩)

abbrev rm_c_L_isSeen : Room := { frames := 9, cells := 3, slots := 18, locals := 204 }
set_option maxRecDepth 100000 in
set_option maxHeartbeats 4000000 in
theorem c_L_isSeen (l : Launch) (ε : EV) (R9 : va_W) (o : Nat) (g : Nat → Int) (L : List Nat) (f : Nat → va_E) (ρ : Nat → Int) (hst : l.stackTraces = false) (x : Nat) (n : Nat → Int) (G : Nat → Nat → Int) (hR : RX (IP L f ρ) ε x n G) (hI : INV n G) (i : Int) (x9 : Int) (y9 : Int) (ri : rg i) (rx9 : rg x9) (ry9 : rg y9) : CTW l yL_isSeen cL_isSeen 6 (some .int) [(0, 19, 22, 24), (0, 19, 26, 13)] rm_c_L_isSeen ε [.ref x, .int (iv i), .int (iv x9), .int (iv y9), .ref o] ((R9 ++ [(o, eJ ε 1 g)]) ++ va_pl L f) (fun v w => (((0 ≤ i ∧ i < n 2) ∧ (0 ≤ x9 ∧ x9 ≤ 31) ∧ 0 ≤ y9 ∧ y9 ≤ 31) ∧ v = some (.int (iv 0)) ∧ LOK ε R9 o x (va_up g 0 (bz (tb (SE1 G i x9 y9)))) n G w) ∨ ((¬ (0 ≤ i ∧ i < n 2)) ∧ v = some (.int (iv 1)) ∧ LOK ε R9 o x g n G w) ∨ (((0 ≤ i ∧ i < n 2) ∧ ¬ ((0 ≤ x9 ∧ x9 ≤ 31) ∧ 0 ≤ y9 ∧ y9 ≤ 31)) ∧ v = some (.int (iv 2)) ∧ LOK ε R9 o x g n G w)) NX := by
  refine CTW.intro (by decide +kernel) (Nat.le_of_ble_eq_true rfl) ?_
  intro p9 e9 s9 m9 a9 bl9 me9 c9 ls Q9 hC hE hP hD hl hQ
  have hx := hC.1
  have hb := hC.2.1
  have hK := hE.K
  have hS : WS ε s9.heap s9.heap [] := va_S.rf
  have hl : lv_has ls 6 [(0, .ref x), (1, .int (iv i)), (2, .int (iv x9)), (3, .int (iv y9)), (4, .ref o)] := hl
  obtain ⟨H, hH⟩ : ∃ H, H = s9.heap := ⟨_, rfl⟩
  obtain ⟨locs, hlo⟩ : ∃ z : List Loc, z = [] := ⟨_, rfl⟩
  rw [← hH] at hP ⊢
  have hS : WS ε s9.heap H locs := by rw [hH, hlo]; exact hS
  rw [← hlo]
  clear hH hlo
  obtain ⟨dr, aP, aL, aT, aC, Dr, eP, eL, eT, eC, hx0, -⟩ := id hR
  have hnb := hI.NB
  have hRI : RX (IN ((R9 ++ [(o, eJ ε 1 g)]) ++ va_pl L f)) ε x n G := RX.map IP.IN hR
  refine lv_aload (pc := 0) hx hb dL_isSeen_0 (lv_at hl 4 rfl) ?_
  refine lv_iconst (pc := 2) (v := iv 0) hx hb dL_isSeen_2 rfl ?_
  refine lv_aload_n (pc := 3) hx hb dL_isSeen_3 rfl (lv_at hl 0 rfl) ?_
  refine lv_iload_n (pc := 4) hx hb dL_isSeen_4 rfl (lv_at hl 1 rfl) ?_
  refine lv_iload_n (pc := 5) hx hb dL_isSeen_5 rfl (lv_at hl 2 rfl) ?_
  refine lv_iload_n (pc := 6) hx hb dL_isSeen_6 rfl (lv_at hl 3 rfl) ?_
  refine c_callV (pc := 7) (y := yX4_isSeen) (As := [.int (iv i), .int (iv x9), .int (iv y9)]) (rest := [.int (iv 0), .ref o]) hC hE hP hD hS hl.1 (c_R_isSeen l ε ((R9 ++ [(o, eJ ε 1 g)]) ++ va_pl L f) hst x n G hRI hI.NB hI.2.1 hI.2.2.1 i ri x9 y9 rx9 ry9) m_17_5 m_17_6 m_17_7 m_0_2 m_17_8 (in_pl hx0.1.1 hx0.1.2) rfl hd_yX4_isSeen rfl ⟨⟨by decide, by decide⟩, by decide, by decide⟩ (Nat.le_of_ble_eq_true rfl) rfl dL_isSeen_7 ?_ ?_
  · intro E9 ce9 q9 w9 H locs hq hP hD hS e1 e2 e3
    rcases hq with hq | hq
    · obtain ⟨hc9, rfl, hw9⟩ := hq
      rw [hw9] at hP hD
      refine c_catch (pc := 7) (E := nIOE) (pre := []) (xr := ⟨0, 19, 22, 24⟩) (suf := [⟨0, 19, 26, 13⟩]) hC hE (by decide +kernel) (by decide +kernel) rfl (fun _ h => absurd h List.not_mem_nil) (by decide) (by decide) m_7_10 e1 e2 e3 ?_
      refine lv_astore (lv' := [(5, .ref q9), (0, .ref x), (1, .int (iv i)), (2, .int (iv x9)), (3, .int (iv y9)), (4, .ref o)]) (pc := 22) hx hb dL_isSeen_22 hl (by decide) rfl (fun ls hl => ?_)
      refine lv_iconst (pc := 24) (v := iv 1) hx hb dL_isSeen_24 rfl ?_
      refine c_iret (pc := 25) hC hQ hP hD hS (by decide) (by decide) dL_isSeen_25 ?_
      exact Or.inr (Or.inl (⟨hc9, rfl, L, f, ρ, rfl, hR⟩))
    · obtain ⟨hc9, rfl, hw9⟩ := hq
      rw [hw9] at hP hD
      refine c_catch (pc := 7) (E := nIAE) (pre := [⟨0, 19, 22, 24⟩]) (xr := ⟨0, 19, 26, 13⟩) (suf := []) hC hE (by decide +kernel) (by decide +kernel) rfl (List.forall_mem_cons.mpr ⟨⟨by decide, nIOE, by decide +kernel, by decide +kernel, m_7_10⟩, fun _ h => absurd h List.not_mem_nil⟩) (by decide) (by decide) m_2_11 e1 e2 e3 ?_
      refine lv_astore (lv' := [(5, .ref q9), (0, .ref x), (1, .int (iv i)), (2, .int (iv x9)), (3, .int (iv y9)), (4, .ref o)]) (pc := 26) hx hb dL_isSeen_26 hl (by decide) rfl (fun ls hl => ?_)
      refine lv_iconst (pc := 28) (v := iv 2) hx hb dL_isSeen_28 rfl ?_
      refine c_iret (pc := 29) hC hQ hP hD hS (by decide) (by decide) dL_isSeen_29 ?_
      exact Or.inr (Or.inr (⟨hc9, rfl, L, f, ρ, rfl, hR⟩))
  · intro v9 w9 H locs hq hP hD hS
    obtain ⟨hc9, hv_, hw_⟩ := hq
    rw [hw_] at hP hD
    rw [hv_]
    clear hv_ hw_
    dsimp only [Option.toList, List.cons_append, List.nil_append]
    refine r_if_b0 (pc := 10) (b := tb (SE1 G i x9 y9)) hx hb dL_isSeen_10 (tgt := 17) (by decide)  (fun c_10 => ?_) (fun c_10 => ?_)
    · replace c_10 := tb_no c_10
      refine lv_lconst (pc := 17) (v := jv 0) hx hb dL_isSeen_17 (by decide) ?_
      refine r_out (pc := 18) (v := 0) hC hK hP hD hS dL_isSeen_18 (fun H locs hP hD hS => ?_)
      refine lv_goto (pc := 19) (tgt := 30) hx hb dL_isSeen_19 (by decide) ?_
      refine lv_iconst (pc := 30) (v := iv 0) hx hb dL_isSeen_30 rfl ?_
      refine c_iret (pc := 31) hC hQ hP hD hS (by decide) (by decide) dL_isSeen_31 ?_
      exact Or.inl (⟨hc9, rfl, (by rw [tb_f c_10]; exact ⟨L, f, ρ, rfl, hR⟩)⟩)
    · replace c_10 := tb_iff.mp c_10
      refine lv_lconst (pc := 13) (v := jv 1) hx hb dL_isSeen_13 (by decide) ?_
      refine lv_goto (pc := 14) (tgt := 18) hx hb dL_isSeen_14 (by decide) ?_
      refine r_out (pc := 18) (v := 1) hC hK hP hD hS dL_isSeen_18 (fun H locs hP hD hS => ?_)
      refine lv_goto (pc := 19) (tgt := 30) hx hb dL_isSeen_19 (by decide) ?_
      refine lv_iconst (pc := 30) (v := iv 0) hx hb dL_isSeen_30 rfl ?_
      refine c_iret (pc := 31) hC hQ hP hD hS (by decide) (by decide) dL_isSeen_31 ?_
      exact Or.inl (⟨hc9, rfl, (by rw [tb_t c_10]; exact ⟨L, f, ρ, rfl, hR⟩)⟩)

abbrev rm_c_L_common : Room := { frames := 9, cells := 2, slots := 12, locals := 202 }
set_option maxRecDepth 100000 in
set_option maxHeartbeats 4000000 in
theorem c_L_common (l : Launch) (ε : EV) (R9 : va_W) (o : Nat) (g : Nat → Int) (L : List Nat) (f : Nat → va_E) (ρ : Nat → Int) (hst : l.stackTraces = false) (x : Nat) (n : Nat → Int) (G : Nat → Nat → Int) (hR : RX (IP L f ρ) ε x n G) (hI : INV n G) (i : Int) (j : Int) (ri : rg i) (rj : rg j) : CTW l yL_common cL_common 5 (some .int) [(0, 10, 13, 24)] rm_c_L_common ε [.ref x, .int (iv i), .int (iv j), .ref o] ((R9 ++ [(o, eJ ε 1 g)]) ++ va_pl L f) (fun v w => (((0 ≤ i ∧ i < n 2) ∧ 0 ≤ j ∧ j < n 2) ∧ v = some (.int (iv 0)) ∧ LOK ε R9 o x (va_up g 0 (SH1 G i j)) n G w) ∨ ((¬ ((0 ≤ i ∧ i < n 2) ∧ 0 ≤ j ∧ j < n 2)) ∧ v = some (.int (iv 1)) ∧ LOK ε R9 o x g n G w)) NX := by
  refine CTW.intro (by decide +kernel) (Nat.le_of_ble_eq_true rfl) ?_
  intro p9 e9 s9 m9 a9 bl9 me9 c9 ls Q9 hC hE hP hD hl hQ
  have hx := hC.1
  have hb := hC.2.1
  have hK := hE.K
  have hS : WS ε s9.heap s9.heap [] := va_S.rf
  have hl : lv_has ls 5 [(0, .ref x), (1, .int (iv i)), (2, .int (iv j)), (3, .ref o)] := hl
  obtain ⟨H, hH⟩ : ∃ H, H = s9.heap := ⟨_, rfl⟩
  obtain ⟨locs, hlo⟩ : ∃ z : List Loc, z = [] := ⟨_, rfl⟩
  rw [← hH] at hP ⊢
  have hS : WS ε s9.heap H locs := by rw [hH, hlo]; exact hS
  rw [← hlo]
  clear hH hlo
  obtain ⟨dr, aP, aL, aT, aC, Dr, eP, eL, eT, eC, hx0, -⟩ := id hR
  have hnb := hI.NB
  have hRI : RX (IN ((R9 ++ [(o, eJ ε 1 g)]) ++ va_pl L f)) ε x n G := RX.map IP.IN hR
  refine lv_aload_n (pc := 0) hx hb dL_common_0 rfl (lv_at hl 3 rfl) ?_
  refine lv_iconst (pc := 1) (v := iv 0) hx hb dL_common_1 rfl ?_
  refine lv_aload_n (pc := 2) hx hb dL_common_2 rfl (lv_at hl 0 rfl) ?_
  refine lv_iload_n (pc := 3) hx hb dL_common_3 rfl (lv_at hl 1 rfl) ?_
  refine lv_iload_n (pc := 4) hx hb dL_common_4 rfl (lv_at hl 2 rfl) ?_
  refine c_callV (pc := 5) (y := yX4_common) (As := [.int (iv i), .int (iv j)]) (rest := [.int (iv 0), .ref o]) hC hE hP hD hS hl.1 (c_R_common l ε ((R9 ++ [(o, eJ ε 1 g)]) ++ va_pl L f) hst x n G hRI hI.NB hI.2.1 hI.2.2.1 i ri j rj) m_17_24 m_18_0 m_18_1 m_0_2 m_18_2 (in_pl hx0.1.1 hx0.1.2) rfl hd_yX4_common rfl ⟨⟨by decide, by decide⟩, by decide, by decide⟩ (Nat.le_of_ble_eq_true rfl) rfl dL_common_5 ?_ ?_
  · intro E9 ce9 q9 w9 H locs hq hP hD hS e1 e2 e3
    obtain ⟨hc9, rfl, hw9⟩ := hq
    rw [hw9] at hP hD
    refine c_catch (pc := 5) (E := nIOE) (pre := []) (xr := ⟨0, 10, 13, 24⟩) (suf := []) hC hE (by decide +kernel) (by decide +kernel) rfl (fun _ h => absurd h List.not_mem_nil) (by decide) (by decide) m_7_10 e1 e2 e3 ?_
    refine lv_astore (lv' := [(4, .ref q9), (0, .ref x), (1, .int (iv i)), (2, .int (iv j)), (3, .ref o)]) (pc := 13) hx hb dL_common_13 hl (by decide) rfl (fun ls hl => ?_)
    refine lv_iconst (pc := 15) (v := iv 1) hx hb dL_common_15 rfl ?_
    refine c_iret (pc := 16) hC hQ hP hD hS (by decide) (by decide) dL_common_16 ?_
    exact Or.inr (⟨hc9, rfl, L, f, ρ, rfl, hR⟩)
  · intro v9 w9 H locs hq hP hD hS
    obtain ⟨hc9, hv_, hw_⟩ := hq
    rw [hw_] at hP hD
    rw [hv_]
    clear hv_ hw_
    dsimp only [Option.toList, List.cons_append, List.nil_append]
    have hsh := SH1_bd G i j
    refine lv_i2l (pc := 8) (v := jv (SH1 G i j)) hx hb dL_common_8 (iv_long _ ⟨by omega, by omega⟩) ?_
    refine r_out (pc := 9) (v := SH1 G i j) hC hK hP hD hS dL_common_9 (fun H locs hP hD hS => ?_)
    refine lv_goto (pc := 10) (tgt := 17) hx hb dL_common_10 (by decide) ?_
    refine lv_iconst (pc := 17) (v := iv 0) hx hb dL_common_17 rfl ?_
    refine c_iret (pc := 18) hC hQ hP hD hS (by decide) (by decide) dL_common_18 ?_
    exact Or.inl (⟨hc9, rfl, ⟨L, f, ρ, rfl, hR⟩⟩)

abbrev rm_c_L_print : Room := { frames := 9, cells := 4, slots := 1100, locals := 421 }
set_option maxRecDepth 100000 in
set_option maxHeartbeats 4000000 in
theorem c_L_print (l : Launch) (ε : EV) (R9 : va_W) (o : Nat) (g : Nat → Int) (L : List Nat) (f : Nat → va_E) (ρ : Nat → Int) (hst : l.stackTraces = false) (x : Nat) (n : Nat → Int) (G : Nat → Nat → Int) (hR : RX (IP L f ρ) ε x n G) (hI : INV n G)  : CTW l yL_print cL_print 3 (some .int) [(0, 8, 11, 15)] rm_c_L_print ε [.ref x, .ref o] ((R9 ++ [(o, eJ ε 1 g)]) ++ va_pl L f) (fun v w => ((n 4 < 10) ∧ v = some (.int (iv 0)) ∧ LOK ε R9 o x (va_up g 0 (n 4)) (va_up n 4 (n 4 + 1)) (PUT (n 4) (SH G (n 4) 12) (mn (n 3) (n 3 - G 12 (n 4).toNat)).toNat) w) ∨ ((n 4 = 10) ∧ v = some (.int (iv 1)) ∧ LOK ε R9 o x g n G w)) NX := by
  refine CTW.intro (by decide +kernel) (Nat.le_of_ble_eq_true rfl) ?_
  intro p9 e9 s9 m9 a9 bl9 me9 c9 ls Q9 hC hE hP hD hl hQ
  have hx := hC.1
  have hb := hC.2.1
  have hK := hE.K
  have hS : WS ε s9.heap s9.heap [] := va_S.rf
  have hl : lv_has ls 3 [(0, .ref x), (1, .ref o)] := hl
  obtain ⟨H, hH⟩ : ∃ H, H = s9.heap := ⟨_, rfl⟩
  obtain ⟨locs, hlo⟩ : ∃ z : List Loc, z = [] := ⟨_, rfl⟩
  rw [← hH] at hP ⊢
  have hS : WS ε s9.heap H locs := by rw [hH, hlo]; exact hS
  rw [← hlo]
  clear hH hlo
  obtain ⟨dr, aP, aL, aT, aC, Dr, eP, eL, eT, eC, hx0, -⟩ := id hR
  have hnb := hI.NB
  have hRI : RX (IN ((R9 ++ [(o, eJ ε 1 g)]) ++ va_pl L f)) ε x n G := RX.map IP.IN hR
  refine lv_aload_n (pc := 0) hx hb dL_print_0 rfl (lv_at hl 1 rfl) ?_
  refine lv_iconst (pc := 1) (v := iv 0) hx hb dL_print_1 rfl ?_
  refine lv_aload_n (pc := 2) hx hb dL_print_2 rfl (lv_at hl 0 rfl) ?_
  refine c_callV (pc := 3) (y := yX4_print) (As := []) (rest := [.int (iv 0), .ref o]) hC hE hP hD hS hl.1 (c_W_print l ε (R9 ++ [(o, eJ ε 1 g)]) L f hst ρ x n G hR hI.NB hI.2.2.2.2.1 (hI.2.2.2.2.2.2.2 (n 4) (Int.le_refl _))) m_19_20 m_19_21 m_19_22 m_0_2 m_19_23 (in_pl hx0.1.1 hx0.1.2) rfl hd_yX4_print rfl ⟨⟨by decide, by decide⟩, by decide, by decide⟩ (Nat.le_of_ble_eq_true rfl) rfl dL_print_3 ?_ ?_
  · intro E9 ce9 q9 w9 H locs hq hP hD hS e1 e2 e3
    obtain ⟨hc9, rfl, hw9⟩ := hq
    rw [hw9] at hP hD
    refine c_catch (pc := 3) (E := nISE) (pre := []) (xr := ⟨0, 8, 11, 15⟩) (suf := []) hC hE (by decide +kernel) (by decide +kernel) rfl (fun _ h => absurd h List.not_mem_nil) (by decide) (by decide) m_2_12 e1 e2 e3 ?_
    refine lv_astore_n (lv' := [(2, .ref q9), (0, .ref x), (1, .ref o)]) (pc := 11) hx hb dL_print_11 rfl hl (by decide) rfl (fun ls hl => ?_)
    refine lv_iconst (pc := 12) (v := iv 1) hx hb dL_print_12 rfl ?_
    refine c_iret (pc := 13) hC hQ hP hD hS (by decide) (by decide) dL_print_13 ?_
    exact Or.inr (⟨hc9, rfl, L, f, ρ, rfl, hR⟩)
  · intro v9 w9 H locs hq hP hD hS
    obtain ⟨hc9, hv_, L2, f2, ρ2, hw_, hR2⟩ := hq
    rw [hw_] at hP hD
    rw [hv_]
    clear hv_ hw_
    dsimp only [Option.toList, List.cons_append, List.nil_append]
    refine lv_i2l (pc := 6) (v := jv (n 4)) hx hb dL_print_6 (iv_long _ ⟨by omega, by omega⟩) ?_
    refine r_out (pc := 7) (v := n 4) hC hK hP hD hS dL_print_7 (fun H locs hP hD hS => ?_)
    refine lv_goto (pc := 8) (tgt := 14) hx hb dL_print_8 (by decide) ?_
    refine lv_iconst (pc := 14) (v := iv 0) hx hb dL_print_14 rfl ?_
    refine c_iret (pc := 15) hC hQ hP hD hS (by decide) (by decide) dL_print_15 ?_
    exact Or.inl (⟨hc9, rfl, ⟨L2, f2, ρ2, rfl, hR2⟩⟩)

abbrev rm_c_L_correct : Room := { frames := 9, cells := 3, slots := 20, locals := 284 }
set_option maxRecDepth 100000 in
set_option maxHeartbeats 4000000 in
theorem c_L_correct (l : Launch) (ε : EV) (R9 : va_W) (o : Nat) (g : Nat → Int) (L : List Nat) (f : Nat → va_E) (ρ : Nat → Int) (hst : l.stackTraces = false) (x : Nat) (n : Nat → Int) (G : Nat → Nat → Int) (hR : RX (IP L f ρ) ε x n G) (hI : INV n G) (ch : Int) (many : Int) (rch : rg ch) (rmany : rg many) : CTW l yL_correct cL_correct 5 (some .int) [(0, 10, 13, 24), (0, 10, 17, 13)] rm_c_L_correct ε [.ref x, .int (iv ch), .int (iv many), .ref o] ((R9 ++ [(o, eJ ε 1 g)]) ++ va_pl L f) (fun v w => (((0 ≤ ch ∧ ch < n 4) ∧ (1 ≤ many ∧ many ≤ 100)) ∧ v = some (.int (iv 0)) ∧ LOK ε R9 o x (va_up g 0 (mn many (n 3 - G 12 ch.toNat))) n (PUT ch G (mn many (n 3 - G 12 ch.toNat)).toNat) w) ∨ ((¬ (0 ≤ ch ∧ ch < n 4)) ∧ v = some (.int (iv 1)) ∧ LOK ε R9 o x g n G w) ∨ (((0 ≤ ch ∧ ch < n 4) ∧ ¬ (1 ≤ many ∧ many ≤ 100)) ∧ v = some (.int (iv 2)) ∧ LOK ε R9 o x g n G w)) NX := by
  refine CTW.intro (by decide +kernel) (Nat.le_of_ble_eq_true rfl) ?_
  intro p9 e9 s9 m9 a9 bl9 me9 c9 ls Q9 hC hE hP hD hl hQ
  have hx := hC.1
  have hb := hC.2.1
  have hK := hE.K
  have hS : WS ε s9.heap s9.heap [] := va_S.rf
  have hl : lv_has ls 5 [(0, .ref x), (1, .int (iv ch)), (2, .int (iv many)), (3, .ref o)] := hl
  obtain ⟨H, hH⟩ : ∃ H, H = s9.heap := ⟨_, rfl⟩
  obtain ⟨locs, hlo⟩ : ∃ z : List Loc, z = [] := ⟨_, rfl⟩
  rw [← hH] at hP ⊢
  have hS : WS ε s9.heap H locs := by rw [hH, hlo]; exact hS
  rw [← hlo]
  clear hH hlo
  obtain ⟨dr, aP, aL, aT, aC, Dr, eP, eL, eT, eC, hx0, -⟩ := id hR
  have hnb := hI.NB
  have hRI : RX (IN ((R9 ++ [(o, eJ ε 1 g)]) ++ va_pl L f)) ε x n G := RX.map IP.IN hR
  refine lv_aload_n (pc := 0) hx hb dL_correct_0 rfl (lv_at hl 3 rfl) ?_
  refine lv_iconst (pc := 1) (v := iv 0) hx hb dL_correct_1 rfl ?_
  refine lv_aload_n (pc := 2) hx hb dL_correct_2 rfl (lv_at hl 0 rfl) ?_
  refine lv_iload_n (pc := 3) hx hb dL_correct_3 rfl (lv_at hl 1 rfl) ?_
  refine lv_iload_n (pc := 4) hx hb dL_correct_4 rfl (lv_at hl 2 rfl) ?_
  refine c_callV (pc := 5) (y := yX4_correct) (As := [.int (iv ch), .int (iv many)]) (rest := [.int (iv 0), .ref o]) hC hE hP hD hS hl.1 (c_W_correct l ε (R9 ++ [(o, eJ ε 1 g)]) L f hst ρ x n G hR hI.NB hI.2.2.2.1 hI.2.2.2.2.1 ch many rch rmany) m_21_11 m_21_12 m_21_13 m_0_2 m_21_14 (in_pl hx0.1.1 hx0.1.2) rfl hd_yX4_correct rfl ⟨⟨by decide, by decide⟩, by decide, by decide⟩ (Nat.le_of_ble_eq_true rfl) rfl dL_correct_5 ?_ ?_
  · intro E9 ce9 q9 w9 H locs hq hP hD hS e1 e2 e3
    rcases hq with hq | hq
    · obtain ⟨hc9, rfl, hw9⟩ := hq
      rw [hw9] at hP hD
      refine c_catch (pc := 5) (E := nIOE) (pre := []) (xr := ⟨0, 10, 13, 24⟩) (suf := [⟨0, 10, 17, 13⟩]) hC hE (by decide +kernel) (by decide +kernel) rfl (fun _ h => absurd h List.not_mem_nil) (by decide) (by decide) m_7_10 e1 e2 e3 ?_
      refine lv_astore (lv' := [(4, .ref q9), (0, .ref x), (1, .int (iv ch)), (2, .int (iv many)), (3, .ref o)]) (pc := 13) hx hb dL_correct_13 hl (by decide) rfl (fun ls hl => ?_)
      refine lv_iconst (pc := 15) (v := iv 1) hx hb dL_correct_15 rfl ?_
      refine c_iret (pc := 16) hC hQ hP hD hS (by decide) (by decide) dL_correct_16 ?_
      exact Or.inr (Or.inl (⟨hc9, rfl, L, f, ρ, rfl, hR⟩))
    · obtain ⟨hc9, rfl, hw9⟩ := hq
      rw [hw9] at hP hD
      refine c_catch (pc := 5) (E := nIAE) (pre := [⟨0, 10, 13, 24⟩]) (xr := ⟨0, 10, 17, 13⟩) (suf := []) hC hE (by decide +kernel) (by decide +kernel) rfl (List.forall_mem_cons.mpr ⟨⟨by decide, nIOE, by decide +kernel, by decide +kernel, m_7_10⟩, fun _ h => absurd h List.not_mem_nil⟩) (by decide) (by decide) m_2_11 e1 e2 e3 ?_
      refine lv_astore (lv' := [(4, .ref q9), (0, .ref x), (1, .int (iv ch)), (2, .int (iv many)), (3, .ref o)]) (pc := 17) hx hb dL_correct_17 hl (by decide) rfl (fun ls hl => ?_)
      refine lv_iconst (pc := 19) (v := iv 2) hx hb dL_correct_19 rfl ?_
      refine c_iret (pc := 20) hC hQ hP hD hS (by decide) (by decide) dL_correct_20 ?_
      exact Or.inr (Or.inr (⟨hc9, rfl, L, f, ρ, rfl, hR⟩))
  · intro v9 w9 H locs hq hP hD hS
    obtain ⟨hc9, hv_, L2, f2, ρ2, hw_, hR2⟩ := hq
    rw [hw_] at hP hD
    rw [hv_]
    clear hv_ hw_
    dsimp only [Option.toList, List.cons_append, List.nil_append]
    have hct := (hI.2.2.2.1.2 ch hc9.1.1 hc9.1.2).1
    have hmn : 0 ≤ mn many (n 3 - G 12 ch.toNat) ∧ mn many (n 3 - G 12 ch.toNat) ≤ 100 := by unfold mn; split <;> omega
    refine lv_i2l (pc := 8) (v := jv (mn many (n 3 - G 12 ch.toNat))) hx hb dL_correct_8 (iv_long _ ⟨by omega, by omega⟩) ?_
    refine r_out (pc := 9) (v := mn many (n 3 - G 12 ch.toNat)) hC hK hP hD hS dL_correct_9 (fun H locs hP hD hS => ?_)
    refine lv_goto (pc := 10) (tgt := 21) hx hb dL_correct_10 (by decide) ?_
    refine lv_iconst (pc := 21) (v := iv 0) hx hb dL_correct_21 rfl ?_
    refine c_iret (pc := 22) hC hQ hP hD hS (by decide) (by decide) dL_correct_22 ?_
    exact Or.inl (⟨hc9, rfl, ⟨L2, f2, ρ2, rfl, hR2⟩⟩)

abbrev rm_c_L_behind : Room := { frames := 9, cells := 1, slots := 6, locals := 201 }
set_option maxRecDepth 100000 in
set_option maxHeartbeats 4000000 in
theorem c_L_behind (l : Launch) (ε : EV) (R9 : va_W) (o : Nat) (g : Nat → Int) (L : List Nat) (f : Nat → va_E) (ρ : Nat → Int) (hst : l.stackTraces = false) (x : Nat) (n : Nat → Int) (G : Nat → Nat → Int) (hR : RX (IP L f ρ) ε x n G) (hI : INV n G) (ch : Int) (rch : rg ch) : CTW l yL_behind cL_behind 4 (some .int) [(0, 9, 12, 24)] rm_c_L_behind ε [.ref x, .int (iv ch), .ref o] ((R9 ++ [(o, eJ ε 1 g)]) ++ va_pl L f) (fun v w => ((0 ≤ ch ∧ ch < n 4) ∧ v = some (.int (iv 0)) ∧ LOK ε R9 o x (va_up g 0 (n 3 - G 12 ch.toNat)) n G w) ∨ ((¬ (0 ≤ ch ∧ ch < n 4)) ∧ v = some (.int (iv 1)) ∧ LOK ε R9 o x g n G w)) NX := by
  refine CTW.intro (by decide +kernel) (Nat.le_of_ble_eq_true rfl) ?_
  intro p9 e9 s9 m9 a9 bl9 me9 c9 ls Q9 hC hE hP hD hl hQ
  have hx := hC.1
  have hb := hC.2.1
  have hK := hE.K
  have hS : WS ε s9.heap s9.heap [] := va_S.rf
  have hl : lv_has ls 4 [(0, .ref x), (1, .int (iv ch)), (2, .ref o)] := hl
  obtain ⟨H, hH⟩ : ∃ H, H = s9.heap := ⟨_, rfl⟩
  obtain ⟨locs, hlo⟩ : ∃ z : List Loc, z = [] := ⟨_, rfl⟩
  rw [← hH] at hP ⊢
  have hS : WS ε s9.heap H locs := by rw [hH, hlo]; exact hS
  rw [← hlo]
  clear hH hlo
  obtain ⟨dr, aP, aL, aT, aC, Dr, eP, eL, eT, eC, hx0, -⟩ := id hR
  have hnb := hI.NB
  have hRI : RX (IN ((R9 ++ [(o, eJ ε 1 g)]) ++ va_pl L f)) ε x n G := RX.map IP.IN hR
  refine lv_aload_n (pc := 0) hx hb dL_behind_0 rfl (lv_at hl 2 rfl) ?_
  refine lv_iconst (pc := 1) (v := iv 0) hx hb dL_behind_1 rfl ?_
  refine lv_aload_n (pc := 2) hx hb dL_behind_2 rfl (lv_at hl 0 rfl) ?_
  refine lv_iload_n (pc := 3) hx hb dL_behind_3 rfl (lv_at hl 1 rfl) ?_
  refine c_callV (pc := 4) (y := yX4_behind) (As := [.int (iv ch)]) (rest := [.int (iv 0), .ref o]) hC hE hP hD hS hl.1 (c_R_behind l ε ((R9 ++ [(o, eJ ε 1 g)]) ++ va_pl L f) hst x n G hRI hI.NB hI.2.1 hI.2.2.1 hI.2.2.2.1 ch rch) m_22_10 m_22_11 m_22_12 m_0_2 m_22_13 (in_pl hx0.1.1 hx0.1.2) rfl hd_yX4_behind rfl ⟨⟨by decide, by decide⟩, by decide, by decide⟩ (Nat.le_of_ble_eq_true rfl) rfl dL_behind_4 ?_ ?_
  · intro E9 ce9 q9 w9 H locs hq hP hD hS e1 e2 e3
    obtain ⟨hc9, rfl, hw9⟩ := hq
    rw [hw9] at hP hD
    refine c_catch (pc := 4) (E := nIOE) (pre := []) (xr := ⟨0, 9, 12, 24⟩) (suf := []) hC hE (by decide +kernel) (by decide +kernel) rfl (fun _ h => absurd h List.not_mem_nil) (by decide) (by decide) m_7_10 e1 e2 e3 ?_
    refine lv_astore_n (lv' := [(3, .ref q9), (0, .ref x), (1, .int (iv ch)), (2, .ref o)]) (pc := 12) hx hb dL_behind_12 rfl hl (by decide) rfl (fun ls hl => ?_)
    refine lv_iconst (pc := 13) (v := iv 1) hx hb dL_behind_13 rfl ?_
    refine c_iret (pc := 14) hC hQ hP hD hS (by decide) (by decide) dL_behind_14 ?_
    exact Or.inr (⟨hc9, rfl, L, f, ρ, rfl, hR⟩)
  · intro v9 w9 H locs hq hP hD hS
    obtain ⟨hc9, hv_, hw_⟩ := hq
    rw [hw_] at hP hD
    rw [hv_]
    clear hv_ hw_
    dsimp only [Option.toList, List.cons_append, List.nil_append]
    have hct := (hI.2.2.2.1.2 ch hc9.1 hc9.2).1
    refine lv_i2l (pc := 7) (v := jv (n 3 - G 12 ch.toNat)) hx hb dL_behind_7 (iv_long _ ⟨by omega, by omega⟩) ?_
    refine r_out (pc := 8) (v := n 3 - G 12 ch.toNat) hC hK hP hD hS dL_behind_8 (fun H locs hP hD hS => ?_)
    refine lv_goto (pc := 9) (tgt := 15) hx hb dL_behind_9 (by decide) ?_
    refine lv_iconst (pc := 15) (v := iv 0) hx hb dL_behind_15 rfl ?_
    refine c_iret (pc := 16) hC hQ hP hD hS (by decide) (by decide) dL_behind_16 ?_
    exact Or.inl (⟨hc9, rfl, ⟨L, f, ρ, rfl, hR⟩⟩)

abbrev rm_c_L_shown : Room := { frames := 9, cells := 2, slots := 12, locals := 203 }
set_option maxRecDepth 100000 in
set_option maxHeartbeats 4000000 in
theorem c_L_shown (l : Launch) (ε : EV) (R9 : va_W) (o : Nat) (g : Nat → Int) (L : List Nat) (f : Nat → va_E) (ρ : Nat → Int) (hst : l.stackTraces = false) (x : Nat) (n : Nat → Int) (G : Nat → Nat → Int) (hR : RX (IP L f ρ) ε x n G) (hI : INV n G) (ch : Int) (i : Int) (rch : rg ch) (ri : rg i) : CTW l yL_shown cL_shown 5 (some .int) [(0, 10, 13, 24)] rm_c_L_shown ε [.ref x, .int (iv ch), .int (iv i), .ref o] ((R9 ++ [(o, eJ ε 1 g)]) ++ va_pl L f) (fun v w => (((0 ≤ ch ∧ ch < n 4) ∧ 0 ≤ i ∧ i < n 2) ∧ v = some (.int (iv 0)) ∧ LOK ε R9 o x (va_up g 0 (G 13 (12 * ch + i).toNat)) n G w) ∨ ((¬ ((0 ≤ ch ∧ ch < n 4) ∧ 0 ≤ i ∧ i < n 2)) ∧ v = some (.int (iv 1)) ∧ LOK ε R9 o x g n G w)) NX := by
  refine CTW.intro (by decide +kernel) (Nat.le_of_ble_eq_true rfl) ?_
  intro p9 e9 s9 m9 a9 bl9 me9 c9 ls Q9 hC hE hP hD hl hQ
  have hx := hC.1
  have hb := hC.2.1
  have hK := hE.K
  have hS : WS ε s9.heap s9.heap [] := va_S.rf
  have hl : lv_has ls 5 [(0, .ref x), (1, .int (iv ch)), (2, .int (iv i)), (3, .ref o)] := hl
  obtain ⟨H, hH⟩ : ∃ H, H = s9.heap := ⟨_, rfl⟩
  obtain ⟨locs, hlo⟩ : ∃ z : List Loc, z = [] := ⟨_, rfl⟩
  rw [← hH] at hP ⊢
  have hS : WS ε s9.heap H locs := by rw [hH, hlo]; exact hS
  rw [← hlo]
  clear hH hlo
  obtain ⟨dr, aP, aL, aT, aC, Dr, eP, eL, eT, eC, hx0, -⟩ := id hR
  have hnb := hI.NB
  have hRI : RX (IN ((R9 ++ [(o, eJ ε 1 g)]) ++ va_pl L f)) ε x n G := RX.map IP.IN hR
  refine lv_aload_n (pc := 0) hx hb dL_shown_0 rfl (lv_at hl 3 rfl) ?_
  refine lv_iconst (pc := 1) (v := iv 0) hx hb dL_shown_1 rfl ?_
  refine lv_aload_n (pc := 2) hx hb dL_shown_2 rfl (lv_at hl 0 rfl) ?_
  refine lv_iload_n (pc := 3) hx hb dL_shown_3 rfl (lv_at hl 1 rfl) ?_
  refine lv_iload_n (pc := 4) hx hb dL_shown_4 rfl (lv_at hl 2 rfl) ?_
  refine c_callV (pc := 5) (y := yX4_shown) (As := [.int (iv ch), .int (iv i)]) (rest := [.int (iv 0), .ref o]) hC hE hP hD hS hl.1 (c_R_shown l ε ((R9 ++ [(o, eJ ε 1 g)]) ++ va_pl L f) hst x n G hRI hI.NB hI.2.1 hI.2.2.1 ch rch i ri) m_22_21 m_22_22 m_22_23 m_0_2 m_22_24 (in_pl hx0.1.1 hx0.1.2) rfl hd_yX4_shown rfl ⟨⟨by decide, by decide⟩, by decide, by decide⟩ (Nat.le_of_ble_eq_true rfl) rfl dL_shown_5 ?_ ?_
  · intro E9 ce9 q9 w9 H locs hq hP hD hS e1 e2 e3
    obtain ⟨hc9, rfl, hw9⟩ := hq
    rw [hw9] at hP hD
    refine c_catch (pc := 5) (E := nIOE) (pre := []) (xr := ⟨0, 10, 13, 24⟩) (suf := []) hC hE (by decide +kernel) (by decide +kernel) rfl (fun _ h => absurd h List.not_mem_nil) (by decide) (by decide) m_7_10 e1 e2 e3 ?_
    refine lv_astore (lv' := [(4, .ref q9), (0, .ref x), (1, .int (iv ch)), (2, .int (iv i)), (3, .ref o)]) (pc := 13) hx hb dL_shown_13 hl (by decide) rfl (fun ls hl => ?_)
    refine lv_iconst (pc := 15) (v := iv 1) hx hb dL_shown_15 rfl ?_
    refine c_iret (pc := 16) hC hQ hP hD hS (by decide) (by decide) dL_shown_16 ?_
    exact Or.inr (⟨hc9, rfl, L, f, ρ, rfl, hR⟩)
  · intro v9 w9 H locs hq hP hD hS
    obtain ⟨hc9, hv_, hw_⟩ := hq
    rw [hw_] at hP hD
    rw [hv_]
    clear hv_ hw_
    dsimp only [Option.toList, List.cons_append, List.nil_append]
    have hct := (hI.2.2.2.1.2 ch hc9.1.1 hc9.1.2).2 i hc9.2.1 (by omega)
    refine lv_i2l (pc := 8) (v := jv (G 13 (12 * ch + i).toNat)) hx hb dL_shown_8 (iv_long _ ⟨by omega, by omega⟩) ?_
    refine r_out (pc := 9) (v := G 13 (12 * ch + i).toNat) hC hK hP hD hS dL_shown_9 (fun H locs hP hD hS => ?_)
    refine lv_goto (pc := 10) (tgt := 17) hx hb dL_shown_10 (by decide) ?_
    refine lv_iconst (pc := 17) (v := iv 0) hx hb dL_shown_17 rfl ?_
    refine c_iret (pc := 18) hC hQ hP hD hS (by decide) (by decide) dL_shown_18 ?_
    exact Or.inl (⟨hc9, rfl, ⟨L, f, ρ, rfl, hR⟩⟩)

abbrev rm_c_L_taken : Room := { frames := 9, cells := 6, slots := 36, locals := 233 }
set_option maxRecDepth 100000 in
set_option maxHeartbeats 4000000 in
theorem c_L_taken (l : Launch) (ε : EV) (R9 : va_W) (o : Nat) (g : Nat → Int) (L : List Nat) (f : Nat → va_E) (ρ : Nat → Int) (hst : l.stackTraces = false) (x : Nat) (n : Nat → Int) (G : Nat → Nat → Int) (hR : RX (IP L f ρ) ε x n G) (hI : INV n G) (ch : Int) (x9 : Int) (y9 : Int) (i : Int) (fr : Int) (many : Int) (rch : rg ch) (rx9 : rg x9) (ry9 : rg y9) (ri : rg i) (rfr : rg fr) (rmany : rg many) : CTW l yL_taken cL_taken 9 (some .int) [(0, 18, 21, 24), (0, 18, 25, 13)] rm_c_L_taken ε [.ref x, .int (iv ch), .int (iv x9), .int (iv y9), .int (iv i), .int (iv fr), .int (iv many), .ref o] ((R9 ++ [(o, eJ ε 1 g)]) ++ va_pl L f) (fun v w => ((((0 ≤ ch ∧ ch < n 4) ∧ 0 ≤ i ∧ i < n 2) ∧ (((0 ≤ x9 ∧ x9 ≤ 31) ∧ 0 ≤ y9 ∧ y9 ≤ 31) ∧ (0 ≤ fr ∧ fr ≤ 1000) ∧ 1 ≤ many ∧ many ≤ 60)) ∧ v = some (.int (iv 0)) ∧ LOK ε R9 o x (va_up g 0 (TK (CAN2 G ch x9 y9 i fr many) (n 2).toNat)) n G w) ∨ ((¬ ((0 ≤ ch ∧ ch < n 4) ∧ 0 ≤ i ∧ i < n 2)) ∧ v = some (.int (iv 1)) ∧ LOK ε R9 o x g n G w) ∨ ((((0 ≤ ch ∧ ch < n 4) ∧ 0 ≤ i ∧ i < n 2) ∧ ¬ (((0 ≤ x9 ∧ x9 ≤ 31) ∧ 0 ≤ y9 ∧ y9 ≤ 31) ∧ (0 ≤ fr ∧ fr ≤ 1000) ∧ 1 ≤ many ∧ many ≤ 60)) ∧ v = some (.int (iv 2)) ∧ LOK ε R9 o x g n G w)) NX := by
  refine CTW.intro (by decide +kernel) (Nat.le_of_ble_eq_true rfl) ?_
  intro p9 e9 s9 m9 a9 bl9 me9 c9 ls Q9 hC hE hP hD hl hQ
  have hx := hC.1
  have hb := hC.2.1
  have hK := hE.K
  have hS : WS ε s9.heap s9.heap [] := va_S.rf
  have hl : lv_has ls 9 [(0, .ref x), (1, .int (iv ch)), (2, .int (iv x9)), (3, .int (iv y9)), (4, .int (iv i)), (5, .int (iv fr)), (6, .int (iv many)), (7, .ref o)] := hl
  obtain ⟨H, hH⟩ : ∃ H, H = s9.heap := ⟨_, rfl⟩
  obtain ⟨locs, hlo⟩ : ∃ z : List Loc, z = [] := ⟨_, rfl⟩
  rw [← hH] at hP ⊢
  have hS : WS ε s9.heap H locs := by rw [hH, hlo]; exact hS
  rw [← hlo]
  clear hH hlo
  obtain ⟨dr, aP, aL, aT, aC, Dr, eP, eL, eT, eC, hx0, -⟩ := id hR
  have hnb := hI.NB
  have hRI : RX (IN ((R9 ++ [(o, eJ ε 1 g)]) ++ va_pl L f)) ε x n G := RX.map IP.IN hR
  refine lv_aload (pc := 0) hx hb dL_taken_0 (lv_at hl 7 rfl) ?_
  refine lv_iconst (pc := 2) (v := iv 0) hx hb dL_taken_2 rfl ?_
  refine lv_aload_n (pc := 3) hx hb dL_taken_3 rfl (lv_at hl 0 rfl) ?_
  refine lv_iload_n (pc := 4) hx hb dL_taken_4 rfl (lv_at hl 1 rfl) ?_
  refine lv_iload_n (pc := 5) hx hb dL_taken_5 rfl (lv_at hl 2 rfl) ?_
  refine lv_iload_n (pc := 6) hx hb dL_taken_6 rfl (lv_at hl 3 rfl) ?_
  refine lv_iload (pc := 7) hx hb dL_taken_7 (lv_at hl 4 rfl) ?_
  refine lv_iload (pc := 9) hx hb dL_taken_9 (lv_at hl 5 rfl) ?_
  refine lv_iload (pc := 11) hx hb dL_taken_11 (lv_at hl 6 rfl) ?_
  refine c_callV (pc := 13) (y := yX4_taken) (As := [.int (iv ch), .int (iv x9), .int (iv y9), .int (iv i), .int (iv fr), .int (iv many)]) (rest := [.int (iv 0), .ref o]) hC hE hP hD hS hl.1 (c_R_taken l ε ((R9 ++ [(o, eJ ε 1 g)]) ++ va_pl L f) hst x n G hRI hI.NB hI.2.1 hI.2.2.1 hI.2.2.2.1 ch x9 y9 i fr many rch rx9 ry9 ri rfr rmany) m_23_11 m_23_12 m_23_13 m_0_2 m_23_14 (in_pl hx0.1.1 hx0.1.2) rfl hd_yX4_taken rfl ⟨⟨by decide, by decide⟩, by decide, by decide⟩ (Nat.le_of_ble_eq_true rfl) rfl dL_taken_13 ?_ ?_
  · intro E9 ce9 q9 w9 H locs hq hP hD hS e1 e2 e3
    rcases hq with hq | hq
    · obtain ⟨hc9, rfl, hw9⟩ := hq
      rw [hw9] at hP hD
      refine c_catch (pc := 13) (E := nIOE) (pre := []) (xr := ⟨0, 18, 21, 24⟩) (suf := [⟨0, 18, 25, 13⟩]) hC hE (by decide +kernel) (by decide +kernel) rfl (fun _ h => absurd h List.not_mem_nil) (by decide) (by decide) m_7_10 e1 e2 e3 ?_
      refine lv_astore (lv' := [(8, .ref q9), (0, .ref x), (1, .int (iv ch)), (2, .int (iv x9)), (3, .int (iv y9)), (4, .int (iv i)), (5, .int (iv fr)), (6, .int (iv many)), (7, .ref o)]) (pc := 21) hx hb dL_taken_21 hl (by decide) rfl (fun ls hl => ?_)
      refine lv_iconst (pc := 23) (v := iv 1) hx hb dL_taken_23 rfl ?_
      refine c_iret (pc := 24) hC hQ hP hD hS (by decide) (by decide) dL_taken_24 ?_
      exact Or.inr (Or.inl (⟨hc9, rfl, L, f, ρ, rfl, hR⟩))
    · obtain ⟨hc9, rfl, hw9⟩ := hq
      rw [hw9] at hP hD
      refine c_catch (pc := 13) (E := nIAE) (pre := [⟨0, 18, 21, 24⟩]) (xr := ⟨0, 18, 25, 13⟩) (suf := []) hC hE (by decide +kernel) (by decide +kernel) rfl (List.forall_mem_cons.mpr ⟨⟨by decide, nIOE, by decide +kernel, by decide +kernel, m_7_10⟩, fun _ h => absurd h List.not_mem_nil⟩) (by decide) (by decide) m_2_11 e1 e2 e3 ?_
      refine lv_astore (lv' := [(8, .ref q9), (0, .ref x), (1, .int (iv ch)), (2, .int (iv x9)), (3, .int (iv y9)), (4, .int (iv i)), (5, .int (iv fr)), (6, .int (iv many)), (7, .ref o)]) (pc := 25) hx hb dL_taken_25 hl (by decide) rfl (fun ls hl => ?_)
      refine lv_iconst (pc := 27) (v := iv 2) hx hb dL_taken_27 rfl ?_
      refine c_iret (pc := 28) hC hQ hP hD hS (by decide) (by decide) dL_taken_28 ?_
      exact Or.inr (Or.inr (⟨hc9, rfl, L, f, ρ, rfl, hR⟩))
  · intro v9 w9 H locs hq hP hD hS
    obtain ⟨hc9, hv_, hw_⟩ := hq
    rw [hw_] at hP hD
    rw [hv_]
    clear hv_ hw_
    dsimp only [Option.toList, List.cons_append, List.nil_append]
    have htk := TK.bd (CAN2 G ch x9 y9 i fr many) (n 2).toNat
    refine lv_i2l (pc := 16) (v := jv (TK (CAN2 G ch x9 y9 i fr many) (n 2).toNat)) hx hb dL_taken_16 (iv_long _ ⟨by omega, by omega⟩) ?_
    refine r_out (pc := 17) (v := TK (CAN2 G ch x9 y9 i fr many) (n 2).toNat) hC hK hP hD hS dL_taken_17 (fun H locs hP hD hS => ?_)
    refine lv_goto (pc := 18) (tgt := 29) hx hb dL_taken_18 (by decide) ?_
    refine lv_iconst (pc := 29) (v := iv 0) hx hb dL_taken_29 rfl ?_
    refine c_iret (pc := 30) hC hQ hP hD hS (by decide) (by decide) dL_taken_30 ?_
    exact Or.inl (⟨hc9, rfl, ⟨L, f, ρ, rfl, hR⟩⟩)
