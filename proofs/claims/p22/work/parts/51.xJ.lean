abbrev rm_c_W_phase : Room := { frames := 7, cells := 2, slots := 12, locals := 130 }
set_option maxRecDepth 100000 in
set_option maxHeartbeats 4000000 in
theorem c_W_phase (l : Launch) (ε : EV) (X : va_W) (L : List Nat) (f : Nat → va_E) (hst : l.stackTraces = false) (ρ : Nat → Int) (x : Nat) (n : Nat → Int) (G : Nat → Nat → Int) (hR : RX (IP L f ρ) ε x n G) (hN : NB n) (hD0 : VDra n G) (t : Int) (rt : rg t) : CT l yX4_phase cX4_phase 2 (some .int) rm_c_W_phase ε [.ref x, .int (iv t)] (X ++ va_pl L f) (fun v w => ((1 ≤ t ∧ t ≤ 9) ∧ n 0 < 6) ∧ v = some (.int (iv (n 0 + 1))) ∧ ∃ (L2 : List Nat) (f2 : Nat → va_E) (ρ2 : Nat → Int), w = X ++ va_pl L2 f2 ∧ RX (IP L2 f2 ρ2) ε x (va_up n 0 (n 0 + 1)) (va_up G 0 (va_up (G 0) (n 0).toNat t))) (fun E w => (¬ (1 ≤ t ∧ t ≤ 9) ∧ E = nIAE ∧ w = X ++ va_pl L f) ∨ (((1 ≤ t ∧ t ≤ 9) ∧ n 0 = 6) ∧ E = nISE ∧ w = X ++ va_pl L f)) := by
  refine CT.intro (by decide +kernel) (Nat.le_of_ble_eq_true rfl) ?_
  intro p9 e9 s9 m9 a9 bl9 me9 c9 ls Q9 hC hE hP hD hl hQ
  have hx := hC.1
  have hb := hC.2.1
  have hK := hE.K
  have hS : WS ε s9.heap s9.heap [] := va_S.rf
  have hl : lv_has ls 2 [(0, .ref x), (1, .int (iv t))] := hl
  obtain ⟨H, hH⟩ : ∃ H, H = s9.heap := ⟨_, rfl⟩
  obtain ⟨locs, hlo⟩ : ∃ z : List Loc, z = [] := ⟨_, rfl⟩
  rw [← hH] at hP ⊢
  have hS : WS ε s9.heap H locs := by rw [hH, hlo]; exact hS
  rw [← hlo]
  clear hH hlo
  obtain ⟨dr, aP, aL, aT, aC, Dr, eP, eL, eT, eC, hRC⟩ := id hR
  obtain ⟨hx0, hxD, hlP, hlL, hlT, hlC, hpP, hpL, hpT, hpC⟩ := id hRC
  have hnb := hN
  have hxd : x ≠ dr := fun z => by have h1 := hx0.1.2; rw [z, hxD.1.1.2] at h1; cases h1
  have hd0 := hD0.1
  refine lv_iload_n (pc := 0) hx hb dX4_phase_0 rfl (lv_at hl 1 rfl) ?_
  refine lv_iconst (pc := 1) (v := iv 1) hx hb dX4_phase_1 rfl ?_
  refine lv_bipush (pc := 2) (v := iv 9) hx hb dX4_phase_2 (by decide) ?_
  refine c_callS (pc := 4) (y := yX4_requireWithin) (As := [.int (iv t), .int (iv 1), .int (iv 9)]) (rest := []) hC hE hP hD hS hl.1 (c_R_within l ε (X ++ va_pl L f) hst (t) (1) (9) ⟨by omega, by omega⟩ ⟨by omega, by omega⟩ ⟨by omega, by omega⟩) m_5_5 m_5_6 m_0_2 m_5_7 hd_yX4_requireWithin rfl ⟨⟨by decide, by decide⟩, by decide, by decide⟩ (Nat.le_of_ble_eq_true rfl) rfl dX4_phase_4 (fun E ce q9 ws1 H1 locs1 hq hP hD hS h1 h2 h3 => c_out hC hQ hP hD hS h1 h2 h3 (by decide) (by decide) (Or.inl hq)) (fun v ws1 H locs hq hP hD hS => ?_)
  obtain ⟨hg1, hv_, hw_⟩ := hq
  rw [hw_] at hP hD
  rw [hv_]
  clear hv_ hw_
  dsimp only [Option.toList, List.cons_append, List.nil_append]
  refine lv_aload_n (pc := 7) hx hb dX4_phase_7 rfl (lv_at hl 0 rfl) ?_
  refine r_get (pc := 8) hC hK hP (in_pl hx0.1.1 hx0.1.2) (hc := rfl) (fun w h => wt_0 w h) 1 (by decide) m_0_21 (fun _ h => h) (v := .int (iv (n 0))) rfl dX4_phase_8 ?_
  refine lv_aload_n (pc := 11) hx hb dX4_phase_11 rfl (lv_at hl 0 rfl) ?_
  refine r_get (pc := 12) hC hK hP (in_pl hx0.1.1 hx0.1.2) (hc := rfl) (fun w h => wt_0 w h) 0 (by decide) m_0_20 (fun _ h => h) (v := .ref dr) rfl dX4_phase_12 ?_
  refine r_alenI (pc := 15) hC hK hP (in_pl hxD.1.1.1 hxD.1.1.2) dX4_phase_15 ?_
  refine r_icmp_lt (pc := 16) (a := n 0) (b := (6 : Int)) hx hb dX4_phase_16 (tgt := 29) (by decide) ⟨by omega, by omega⟩ ⟨by omega, by omega⟩ (fun c_16 => ?_) (fun c_16 => ?_)
  · have c_16_ := c_16
    refine lv_aload_n (pc := 29) hx hb dX4_phase_29 rfl (lv_at hl 0 rfl) ?_
    refine r_get (pc := 30) hC hK hP (in_pl hx0.1.1 hx0.1.2) (hc := rfl) (fun w h => wt_0 w h) 0 (by decide) m_0_20 (fun _ h => h) (v := .ref dr) rfl dX4_phase_30 ?_
    refine lv_aload_n (pc := 33) hx hb dX4_phase_33 rfl (lv_at hl 0 rfl) ?_
    refine r_get (pc := 34) hC hK hP (in_pl hx0.1.1 hx0.1.2) (hc := rfl) (fun w h => wt_0 w h) 1 (by decide) m_0_21 (fun _ h => h) (v := .int (iv (n 0))) rfl dX4_phase_34 ?_
    refine lv_iload_n (pc := 37) hx hb dX4_phase_37 rfl (lv_at hl 1 rfl) ?_
    refine p_iast (pc := 38) (z := n 0) (v := t) hC hK hP hD hS hxD.1.1.1 hxD.1.1.2 ⟨by omega, by omega, by omega⟩ dX4_phase_38 (fun H locs hP hD hS => ?_)
    replace hP : WP ε (X ++ va_pl L (va_up f dr (eI ε 6 (va_up Dr (n 0).toNat t)))) H := hP
    replace hD : WD ε (X ++ va_pl L (va_up f dr (eI ε 6 (va_up Dr (n 0).toNat t)))) := hD
    refine lv_aload_n (pc := 39) hx hb dX4_phase_39 rfl (lv_at hl 0 rfl) ?_
    refine lv_dup (pc := 40) hx hb dX4_phase_40 rfl ?_
    refine r_get (pc := 41) hC hK hP (in_pl hx0.1.1 ((va_up_ne _ _ hxd).trans hx0.1.2)) (hc := rfl) (fun w h => wt_0 w h) 1 (by decide) m_0_21 (fun _ h => h) (v := .int (iv (n 0))) rfl dX4_phase_41 ?_
    refine lv_iconst (pc := 44) (v := iv 1) hx hb dX4_phase_44 rfl ?_
    refine r_iadd (pc := 45) (a := n 0) (b := 1) hx hb dX4_phase_45 ?_
    refine p_put (pc := 46) (ci := 5) (T := TX4) (N := 6) (fs := [.ref dr, .int (iv (n 0)), .ref aP, .ref aL, .ref aT, .ref aC]) hC hK hP hD hS hx0.1.1 ((va_up_ne _ _ hxd).trans hx0.1.2) rfl (fun w h => wt_0 w h) tyX4 tyX4_ok nmX4 1 (by decide) m_0_21 (fun _ h => h) rfl (v := .int (iv ((n 0) + 1))) rfl rfl (Nat.le_of_ble_eq_true rfl) dX4_phase_46 (fun H locs hP hD hS => ?_)
    replace hP : WP ε (X ++ va_pl L (va_up (va_up f dr (eI ε 6 (va_up Dr (n 0).toNat t))) x (.inr (5, [.ref dr, .int (iv ((n 0) + 1)), .ref aP, .ref aL, .ref aT, .ref aC])))) H := hP
    replace hD : WD ε (X ++ va_pl L (va_up (va_up f dr (eI ε 6 (va_up Dr (n 0).toNat t))) x (.inr (5, [.ref dr, .int (iv ((n 0) + 1)), .ref aP, .ref aL, .ref aT, .ref aC])))) := hD
    refine lv_aload_n (pc := 49) hx hb dX4_phase_49 rfl (lv_at hl 0 rfl) ?_
    refine r_get (pc := 50) hC hK hP (in_pl hx0.1.1 (va_up_self _ _ _)) (hc := rfl) (fun w h => wt_0 w h) 1 (by decide) m_0_21 (fun _ h => h) (v := .int (iv ((n 0) + 1))) rfl dX4_phase_50 ?_
    refine c_iret (pc := 53) hC hQ hP hD hS (by decide) (by decide) dX4_phase_53 ?_
    exact ⟨⟨by omega, by omega⟩, rfl, _, _, ρ, rfl, RXC.phase hRC hd0.1 hxd rt⟩
  · have c_16_ := c_16
    refine c_throw (pc := 19) (cls := nISE) (text := "the draft has all its phases") (ik := 37) (is := 39) (ic := 41) hC hst hQ hE hP hD hS hl.1 (Or.inl ⟨rfl, rfl, rfl⟩) (by decide) dX4_phase_19 dX4_phase_22 dX4_phase_23 dX4_phase_25 dX4_phase_28 ⟨by decide, by decide, by decide, by decide⟩ ⟨by decide, by decide⟩ ?_
    exact Or.inr ⟨⟨by omega, by omega⟩, rfl, rfl⟩

abbrev rm_c_E_lampAt : Room := { frames := 7, cells := 1, slots := 6, locals := 130 }
set_option maxRecDepth 100000 in
set_option maxHeartbeats 4000000 in
theorem c_E_lampAt (l : Launch) (ε : EV) (ws : va_W) (hst : l.stackTraces = false) (x : Nat) (n : Nat → Int) (G : Nat → Nat → Int) (dr aP aL aT aC : Nat) (Dr : Nat → Int) (eP eL eT eC : Int → Nat) (hRC : RXC (IN ws) ε x n G dr aP aL aT aC Dr eP eL eT eC) (hN : NB n) (i : Int) (ri : rg i) : CT l yX4_lampAt cX4_lampAt 2 (some (.object "LampRhythms$Lamp")) rm_c_E_lampAt ε [.ref x, .int (iv i)] (ws) (fun v w => (0 ≤ i ∧ i < n 2) ∧ v = some (.ref (eL i)) ∧ w = ws) (fun E w => ¬ (0 ≤ i ∧ i < n 2) ∧ E = nIOE ∧ w = ws) := by
  refine CT.intro (by decide +kernel) (Nat.le_of_ble_eq_true rfl) ?_
  intro p9 e9 s9 m9 a9 bl9 me9 c9 ls Q9 hC hE hP hD hl hQ
  have hx := hC.1
  have hb := hC.2.1
  have hK := hE.K
  have hS : WS ε s9.heap s9.heap [] := va_S.rf
  have hl : lv_has ls 2 [(0, .ref x), (1, .int (iv i))] := hl
  obtain ⟨H, hH⟩ : ∃ H, H = s9.heap := ⟨_, rfl⟩
  obtain ⟨locs, hlo⟩ : ∃ z : List Loc, z = [] := ⟨_, rfl⟩
  rw [← hH] at hP ⊢
  have hS : WS ε s9.heap H locs := by rw [hH, hlo]; exact hS
  rw [← hlo]
  clear hH hlo
  have hR : RX (IN ws) ε x n G := hRC.mk
  obtain ⟨hx0, hxD, hlP, hlL, hlT, hlC, hpP, hpL, hpT, hpC⟩ := id hRC
  have hnb := hN
  obtain ⟨mdP, edP, hoP, -⟩ := id hlP
  obtain ⟨mdL, edL, hoL, -⟩ := id hlL
  obtain ⟨mdT, edT, hoT, -⟩ := id hlT
  obtain ⟨mdC, edC, hoC, -⟩ := id hlC
  refine lv_aload_n (pc := 0) hx hb dX4_lampAt_0 rfl (lv_at hl 0 rfl) ?_
  refine lv_iload_n (pc := 1) hx hb dX4_lampAt_1 rfl (lv_at hl 1 rfl) ?_
  refine c_callV (pc := 2) (y := yX4_requireLamp) (As := [.int (iv i)]) (rest := []) hC hE hP hD hS hl.1 (c_R_reqL l ε ws hst x n G hR hN (i) ⟨by omega, by omega⟩) m_9_24 m_10_0 m_10_1 m_0_2 m_10_2 hx0 rfl hd_yX4_requireLamp rfl ⟨⟨by decide, by decide⟩, by decide, by decide⟩ (Nat.le_of_ble_eq_true rfl) rfl dX4_lampAt_2 (fun E ce q9 ws1 H1 locs1 hq hP hD hS h1 h2 h3 => c_out hC hQ hP hD hS h1 h2 h3 (by decide) (by decide) (hq)) (fun v ws1 H locs hq hP hD hS => ?_)
  obtain ⟨hg1, hv_, hw_⟩ := hq
  rw [hw_] at hP hD
  rw [hv_]
  clear hv_ hw_
  dsimp only [Option.toList, List.cons_append, List.nil_append]
  refine lv_aload_n (pc := 5) hx hb dX4_lampAt_5 rfl (lv_at hl 0 rfl) ?_
  refine r_get (pc := 6) hC hK hP hx0 (hc := rfl) (fun w h => wt_0 w h) 3 (by decide) m_1_1 (fun _ h => h) (v := .ref aL) rfl dX4_lampAt_6 ?_
  refine lv_iload_n (pc := 9) hx hb dX4_lampAt_9 rfl (lv_at hl 1 rfl) ?_
  refine c_callV (pc := 10) (y := yJx4a65c_get_915e3) (As := [.int (iv i)]) (rest := []) hC hE hP hD hS hl.1 (c_A_getL l ε ws hlL (i) ⟨by omega, by omega⟩) m_2_13 m_2_14 m_2_15 m_0_24 m_2_16 hoL rfl hd_yJx4a65c_get_915e3 rfl ⟨⟨by decide, by decide⟩, by decide, by decide⟩ (Nat.le_of_ble_eq_true rfl) rfl dX4_lampAt_10 kxN (fun v ws1 H locs hq hP hD hS => ?_)
  rw [hq.2] at hP hD
  rw [hq.1]
  dsimp only [Option.toList, List.cons_append, List.nil_append]
  have hr_h2 := hpL i (by omega) (by omega)
  obtain ⟨s_o3, -, ho_o3, -⟩ := hr_h2.obj
  refine r_cast (pc := 13) hC hK hP (ci := 2) ho_o3 rfl m_14_22 dX4_lampAt_13 ?_
  refine c_aret (pc := 16) hC (Or.inl ⟨_, rfl⟩) (Or.inr ⟨_, rfl⟩) hQ hP hD hS (by decide) (by decide) dX4_lampAt_16 ?_
  exact ⟨by omega, rfl, rfl⟩

abbrev rm_c_E_lampAtN : Room := { frames := 3, cells := 0, slots := 0, locals := 85 }
set_option maxRecDepth 100000 in
set_option maxHeartbeats 4000000 in
theorem c_E_lampAtN (l : Launch) (ε : EV) (ws : va_W) (x : Nat) (n : Nat → Int) (G : Nat → Nat → Int) (dr aP aL aT aC : Nat) (Dr : Nat → Int) (eP eL eT eC : Int → Nat) (hRC : RXC (IN ws) ε x n G dr aP aL aT aC Dr eP eL eT eC) (hN : NB n) (i : Int) (hi : (0 ≤ i ∧ i < n 2)) : CT l yX4_lampAt cX4_lampAt 2 (some (.object "LampRhythms$Lamp")) rm_c_E_lampAtN ε [.ref x, .int (iv i)] (ws) (fun v w => (0 ≤ i ∧ i < n 2) ∧ v = some (.ref (eL i)) ∧ w = ws) NX := by
  refine CT.intro (by decide +kernel) (Nat.le_of_ble_eq_true rfl) ?_
  intro p9 e9 s9 m9 a9 bl9 me9 c9 ls Q9 hC hE hP hD hl hQ
  have hx := hC.1
  have hb := hC.2.1
  have hK := hE.K
  have hS : WS ε s9.heap s9.heap [] := va_S.rf
  have hl : lv_has ls 2 [(0, .ref x), (1, .int (iv i))] := hl
  obtain ⟨H, hH⟩ : ∃ H, H = s9.heap := ⟨_, rfl⟩
  obtain ⟨locs, hlo⟩ : ∃ z : List Loc, z = [] := ⟨_, rfl⟩
  rw [← hH] at hP ⊢
  have hS : WS ε s9.heap H locs := by rw [hH, hlo]; exact hS
  rw [← hlo]
  clear hH hlo
  have hR : RX (IN ws) ε x n G := hRC.mk
  obtain ⟨hx0, hxD, hlP, hlL, hlT, hlC, hpP, hpL, hpT, hpC⟩ := id hRC
  have hnb := hN
  obtain ⟨mdP, edP, hoP, -⟩ := id hlP
  obtain ⟨mdL, edL, hoL, -⟩ := id hlL
  obtain ⟨mdT, edT, hoT, -⟩ := id hlT
  obtain ⟨mdC, edC, hoC, -⟩ := id hlC
  refine lv_aload_n (pc := 0) hx hb dX4_lampAt_0 rfl (lv_at hl 0 rfl) ?_
  refine lv_iload_n (pc := 1) hx hb dX4_lampAt_1 rfl (lv_at hl 1 rfl) ?_
  refine c_callV (pc := 2) (y := yX4_requireLamp) (As := [.int (iv i)]) (rest := []) hC hE hP hD hS hl.1 (c_R_reqLN l ε ws x n G hR hN (i) ⟨by omega, by omega⟩) m_9_24 m_10_0 m_10_1 m_0_2 m_10_2 hx0 rfl hd_yX4_requireLamp rfl ⟨⟨by decide, by decide⟩, by decide, by decide⟩ (Nat.le_of_ble_eq_true rfl) rfl dX4_lampAt_2 kxN (fun v ws1 H locs hq hP hD hS => ?_)
  obtain ⟨hg1, hv_, hw_⟩ := hq
  rw [hw_] at hP hD
  rw [hv_]
  clear hv_ hw_
  dsimp only [Option.toList, List.cons_append, List.nil_append]
  refine lv_aload_n (pc := 5) hx hb dX4_lampAt_5 rfl (lv_at hl 0 rfl) ?_
  refine r_get (pc := 6) hC hK hP hx0 (hc := rfl) (fun w h => wt_0 w h) 3 (by decide) m_1_1 (fun _ h => h) (v := .ref aL) rfl dX4_lampAt_6 ?_
  refine lv_iload_n (pc := 9) hx hb dX4_lampAt_9 rfl (lv_at hl 1 rfl) ?_
  refine c_callV (pc := 10) (y := yJx4a65c_get_915e3) (As := [.int (iv i)]) (rest := []) hC hE hP hD hS hl.1 (c_A_getL l ε ws hlL (i) ⟨by omega, by omega⟩) m_2_13 m_2_14 m_2_15 m_0_24 m_2_16 hoL rfl hd_yJx4a65c_get_915e3 rfl ⟨⟨by decide, by decide⟩, by decide, by decide⟩ (Nat.le_of_ble_eq_true rfl) rfl dX4_lampAt_10 kxN (fun v ws1 H locs hq hP hD hS => ?_)
  rw [hq.2] at hP hD
  rw [hq.1]
  dsimp only [Option.toList, List.cons_append, List.nil_append]
  have hr_h2 := hpL i (by omega) (by omega)
  obtain ⟨s_o3, -, ho_o3, -⟩ := hr_h2.obj
  refine r_cast (pc := 13) hC hK hP (ci := 2) ho_o3 rfl m_14_22 dX4_lampAt_13 ?_
  refine c_aret (pc := 16) hC (Or.inl ⟨_, rfl⟩) (Or.inr ⟨_, rfl⟩) hQ hP hD hS (by decide) (by decide) dX4_lampAt_16 ?_
  exact ⟨by omega, rfl, rfl⟩

abbrev rm_c_E_chartAt : Room := { frames := 6, cells := 1, slots := 6, locals := 90 }
set_option maxRecDepth 100000 in
set_option maxHeartbeats 4000000 in
theorem c_E_chartAt (l : Launch) (ε : EV) (ws : va_W) (hst : l.stackTraces = false) (x : Nat) (n : Nat → Int) (G : Nat → Nat → Int) (dr aP aL aT aC : Nat) (Dr : Nat → Int) (eP eL eT eC : Int → Nat) (hRC : RXC (IN ws) ε x n G dr aP aL aT aC Dr eP eL eT eC) (hN : NB n) (i : Int) (ri : rg i) : CT l yX4_chartAt cX4_chartAt 2 (some (.object "LampRhythms$Chart")) rm_c_E_chartAt ε [.ref x, .int (iv i)] (ws) (fun v w => (0 ≤ i ∧ i < n 4) ∧ v = some (.ref (eC i)) ∧ w = ws) (fun E w => ¬ (0 ≤ i ∧ i < n 4) ∧ E = nIOE ∧ w = ws) := by
  refine CT.intro (by decide +kernel) (Nat.le_of_ble_eq_true rfl) ?_
  intro p9 e9 s9 m9 a9 bl9 me9 c9 ls Q9 hC hE hP hD hl hQ
  have hx := hC.1
  have hb := hC.2.1
  have hK := hE.K
  have hS : WS ε s9.heap s9.heap [] := va_S.rf
  have hl : lv_has ls 2 [(0, .ref x), (1, .int (iv i))] := hl
  obtain ⟨H, hH⟩ : ∃ H, H = s9.heap := ⟨_, rfl⟩
  obtain ⟨locs, hlo⟩ : ∃ z : List Loc, z = [] := ⟨_, rfl⟩
  rw [← hH] at hP ⊢
  have hS : WS ε s9.heap H locs := by rw [hH, hlo]; exact hS
  rw [← hlo]
  clear hH hlo
  have hR : RX (IN ws) ε x n G := hRC.mk
  obtain ⟨hx0, hxD, hlP, hlL, hlT, hlC, hpP, hpL, hpT, hpC⟩ := id hRC
  have hnb := hN
  obtain ⟨mdP, edP, hoP, -⟩ := id hlP
  obtain ⟨mdL, edL, hoL, -⟩ := id hlL
  obtain ⟨mdT, edT, hoT, -⟩ := id hlT
  obtain ⟨mdC, edC, hoC, -⟩ := id hlC
  refine lv_iload_n (pc := 0) hx hb dX4_chartAt_0 rfl (lv_at hl 1 rfl) ?_
  refine r_if_lt (pc := 1) (a := i) hx hb dX4_chartAt_1 (tgt := 15) (by decide) ⟨by omega, by omega⟩ (fun c_1 => ?_) (fun c_1 => ?_)
  · have c_1_ := c_1
    refine c_throw (pc := 15) (cls := nIOE) (text := "there is no such chart") (ik := 188) (is := 195) (ic := 192) hC hst hQ hE hP hD hS hl.1 (Or.inr (Or.inr ⟨rfl, rfl, rfl⟩)) (by decide) dX4_chartAt_15 dX4_chartAt_18 dX4_chartAt_19 dX4_chartAt_21 dX4_chartAt_24 ⟨by decide, by decide, by decide, by decide⟩ ⟨by decide, by decide⟩ ?_
    exact ⟨by omega, rfl, rfl⟩
  · have c_1_ := c_1
    refine lv_iload_n (pc := 4) hx hb dX4_chartAt_4 rfl (lv_at hl 1 rfl) ?_
    refine lv_aload_n (pc := 5) hx hb dX4_chartAt_5 rfl (lv_at hl 0 rfl) ?_
    refine r_get (pc := 6) hC hK hP hx0 (hc := rfl) (fun w h => wt_0 w h) 5 (by decide) m_1_3 (fun _ h => h) (v := .ref aC) rfl dX4_chartAt_6 ?_
    refine c_callV (pc := 9) (y := yJx4a65c_size_8abf5) (As := []) (rest := [.int (iv i)]) hC hE hP hD hS hl.1 (c_A_sizeL l ε ws hlC) m_2_3 m_2_4 m_2_5 m_0_24 m_2_6 hoC rfl hd_yJx4a65c_size_8abf5 rfl ⟨⟨by decide, by decide⟩, by decide, by decide⟩ (Nat.le_of_ble_eq_true rfl) rfl dX4_chartAt_9 kxN (fun v ws1 H locs hq hP hD hS => ?_)
    rw [hq.2] at hP hD
    rw [hq.1]
    dsimp only [Option.toList, List.cons_append, List.nil_append]
    refine r_icmp_lt (pc := 12) (a := i) (b := n 4) hx hb dX4_chartAt_12 (tgt := 25) (by decide) ⟨by omega, by omega⟩ ⟨by omega, by omega⟩ (fun c_12 => ?_) (fun c_12 => ?_)
    · have c_12_ := c_12
      refine lv_aload_n (pc := 25) hx hb dX4_chartAt_25 rfl (lv_at hl 0 rfl) ?_
      refine r_get (pc := 26) hC hK hP hx0 (hc := rfl) (fun w h => wt_0 w h) 5 (by decide) m_1_3 (fun _ h => h) (v := .ref aC) rfl dX4_chartAt_26 ?_
      refine lv_iload_n (pc := 29) hx hb dX4_chartAt_29 rfl (lv_at hl 1 rfl) ?_
      refine c_callV (pc := 30) (y := yJx4a65c_get_915e3) (As := [.int (iv i)]) (rest := []) hC hE hP hD hS hl.1 (c_A_getL l ε ws hlC (i) ⟨by omega, by omega⟩) m_2_13 m_2_14 m_2_15 m_0_24 m_2_16 hoC rfl hd_yJx4a65c_get_915e3 rfl ⟨⟨by decide, by decide⟩, by decide, by decide⟩ (Nat.le_of_ble_eq_true rfl) rfl dX4_chartAt_30 kxN (fun v ws1 H locs hq hP hD hS => ?_)
      rw [hq.2] at hP hD
      rw [hq.1]
      dsimp only [Option.toList, List.cons_append, List.nil_append]
      have hr_h1 := hpC i (by omega) (by omega)
      obtain ⟨p_o2, S_o2, ho_o2, hp_o2, hs_o2⟩ := id hr_h1
      refine r_cast (pc := 33) hC hK hP (ci := 1) ho_o2 rfl m_12_15 dX4_chartAt_33 ?_
      refine c_aret (pc := 36) hC (Or.inl ⟨_, rfl⟩) (Or.inr ⟨_, rfl⟩) hQ hP hD hS (by decide) (by decide) dX4_chartAt_36 ?_
      exact ⟨by omega, rfl, rfl⟩
    · have c_12_ := c_12
      refine c_throw (pc := 15) (cls := nIOE) (text := "there is no such chart") (ik := 188) (is := 195) (ic := 192) hC hst hQ hE hP hD hS hl.1 (Or.inr (Or.inr ⟨rfl, rfl, rfl⟩)) (by decide) dX4_chartAt_15 dX4_chartAt_18 dX4_chartAt_19 dX4_chartAt_21 dX4_chartAt_24 ⟨by decide, by decide, by decide, by decide⟩ ⟨by decide, by decide⟩ ?_
      exact ⟨by omega, rfl, rfl⟩

abbrev rm_c_W_tell : Room := { frames := 7, cells := 2, slots := 1010, locals := 300 }
set_option maxRecDepth 100000 in
set_option maxHeartbeats 4000000 in
theorem c_W_tell (l : Launch) (ε : EV) (X : va_W) (L : List Nat) (f : Nat → va_E) (ρ : Nat → Int) (x : Nat) (n : Nat → Int) (G : Nat → Nat → Int) (hR : RX (IP L f ρ) ε x n G) (hN : NB n) (i : Int) (hi : 0 ≤ i ∧ i < n 2) (h6 : 0 ≤ G 6 i.toNat ∧ G 6 i.toNat < 31) (hf9 : G 10 i.toNat = 0 ∨ G 10 i.toNat = 1) (h3 : n 3 < 512) : CT l yX4_tell cX4_tell 3 (some .int) rm_c_W_tell ε [.ref x, .int (iv i)] (X ++ va_pl L f) (fun v w => v = some (.int (iv (n 3))) ∧ ∃ (L2 : List Nat) (f2 : Nat → va_E) (ρ2 : Nat → Int), w = X ++ va_pl L2 f2 ∧ RX (IP L2 f2 ρ2) ε x (va_up n 3 (n 3 + 1)) (va_up G 11 (va_up (G 11) (n 3).toNat (NV G i)))) NX := by
  refine CT.intro (by decide +kernel) (Nat.le_of_ble_eq_true rfl) ?_
  intro p9 e9 s9 m9 a9 bl9 me9 c9 ls Q9 hC hE hP hD hl hQ
  have hx := hC.1
  have hb := hC.2.1
  have hK := hE.K
  have hS : WS ε s9.heap s9.heap [] := va_S.rf
  have hl : lv_has ls 3 [(0, .ref x), (1, .int (iv i))] := hl
  obtain ⟨H, hH⟩ : ∃ H, H = s9.heap := ⟨_, rfl⟩
  obtain ⟨locs, hlo⟩ : ∃ z : List Loc, z = [] := ⟨_, rfl⟩
  rw [← hH] at hP ⊢
  have hS : WS ε s9.heap H locs := by rw [hH, hlo]; exact hS
  rw [← hlo]
  clear hH hlo
  obtain ⟨dr, aP, aL, aT, aC, Dr, eP, eL, eT, eC, hRC⟩ := id hR
  obtain ⟨hx0, hxD, hlP, hlL, hlT, hlC, hpP, hpL, hpT, hpC⟩ := id hRC
  have hnb := hN
  have hxd : x ≠ dr := fun z => by have h1 := hx0.1.2; rw [z, hxD.1.1.2] at h1; cases h1
  refine lv_aload_n (pc := 0) hx hb dX4_tell_0 rfl (lv_at hl 0 rfl) ?_
  refine r_get (pc := 1) hC hK hP (in_pl hx0.1.1 hx0.1.2) (hc := rfl) (fun w h => wt_0 w h) 4 (by decide) m_1_2 (fun _ h => h) (v := .ref aT) rfl dX4_tell_1 ?_
  obtain ⟨md_4, ed_4, ho_4, -⟩ := (LISTR.map IP.IN hlT).own
  refine c_callV (pc := 4) (y := yJx4a65c_size_8abf5) (As := []) (rest := []) hC hE hP hD hS hl.1 (c_A_sizeL l ε (X ++ va_pl L f) (LISTR.map IP.IN hlT)) m_2_3 m_2_4 m_2_5 m_0_24 m_2_6 ho_4 rfl hd_yJx4a65c_size_8abf5 rfl ⟨⟨by decide, by decide⟩, by decide, by decide⟩ (Nat.le_of_ble_eq_true rfl) rfl dX4_tell_4 kxN (fun v ws1 H locs hq hP hD hS => ?_)
  rw [hq.2] at hP hD
  rw [hq.1]
  dsimp only [Option.toList, List.cons_append, List.nil_append]
  refine lv_sipush (pc := 7) (v := iv 512) hx hb dX4_tell_7 (by decide) ?_
  refine r_icmp_lt (pc := 10) (a := n 3) (b := 512) hx hb dX4_tell_10 (tgt := 15) (by decide) ⟨by omega, by omega⟩ ⟨by omega, by omega⟩ (fun c_10 => ?_) (fun c_10 => ?_)
  · have c_10_ := c_10
    refine lv_aload_n (pc := 15) hx hb dX4_tell_15 rfl (lv_at hl 0 rfl) ?_
    refine lv_iload_n (pc := 16) hx hb dX4_tell_16 rfl (lv_at hl 1 rfl) ?_
    refine c_callV (pc := 17) (y := yX4_lampAt) (As := [.int (iv i)]) (rest := []) hC hE hP hD hS hl.1 (c_E_lampAtN l ε (X ++ va_pl L f) x n G dr aP aL aT aC Dr eP eL eT eC (RXC.map IP.IN hRC) hN (i) ⟨by omega, by omega⟩) m_9_20 m_9_21 m_9_22 m_0_2 m_9_23 (in_pl hx0.1.1 hx0.1.2) rfl hd_yX4_lampAt rfl ⟨⟨by decide, by decide⟩, by decide, by decide⟩ (Nat.le_of_ble_eq_true rfl) rfl dX4_tell_17 kxN (fun v ws1 H locs hq hP hD hS => ?_)
    obtain ⟨hc_w1, hv_, hw_⟩ := hq
    rw [hw_] at hP hD
    rw [hv_]
    clear hv_ hw_
    dsimp only [Option.toList, List.cons_append, List.nil_append]
    obtain ⟨s_w1, g_w1, ho_w1, hs_w1, hg_w1⟩ := hpL (i) hc_w1.1 hc_w1.2
    refine lv_astore_n (lv' := [(2, .ref ((eL i))), (0, .ref x), (1, .int (iv i))]) (pc := 20) hx hb dX4_tell_20 rfl hl (by decide) rfl (fun ls hl => ?_)
    refine lv_aload_n (pc := 21) hx hb dX4_tell_21 rfl (lv_at hl 1 rfl) ?_
    refine r_get (pc := 22) hC hK hP (in_pl hx0.1.1 hx0.1.2) (hc := rfl) (fun w h => wt_0 w h) 4 (by decide) m_1_2 (fun _ h => h) (v := .ref aT) rfl dX4_tell_22 ?_
    refine p_new (pc := 25) (ci := 3) (fs := [.int (iv 0), .int (iv 0)]) (C := RX2) (T := TX2) (N := 2) hC hE hP hD hS rfl (fun w h => wt_5 w h) tyX2 tyX2_ok m_10_7 m_10_8 m_10_9 (fun j hj => by match j, hj with | 0, _ => rfl | 1, _ => rfl) (by decide) (by decide) dX4_tell_25 (fun q2 H hq2 hP hD hS => ?_)
    replace hP : WP ε (X ++ va_pl (L ++ [q2]) (va_up f q2 (.inr (3, [.int (iv 0), .int (iv 0)])))) H := hP
    replace hD : WD ε (X ++ va_pl (L ++ [q2]) (va_up f q2 (.inr (3, [.int (iv 0), .int (iv 0)])))) := hD
    refine lv_dup (pc := 28) hx hb dX4_tell_28 rfl ?_
    refine lv_iload_n (pc := 29) hx hb dX4_tell_29 rfl (lv_at hl 2 rfl) ?_
    refine lv_aload_n (pc := 30) hx hb dX4_tell_30 rfl (lv_at hl 0 rfl) ?_
    refine r_get (pc := 31) hC hK hP (in_pl (List.mem_append_left _ ho_w1.1.1) ((va_up_ne _ _ (fun hz : (eL i) = q2 => hq2 (hz ▸ ho_w1.1.1))).trans ho_w1.1.2)) (hc := rfl) (fun w h => wt_4 w h) 5 (by decide) m_10_10 (fun _ h => h) (v := .int (iv (G 10 i.toNat))) rfl dX4_tell_31 ?_
    refine r_if_eq (pc := 34) (a := G 10 i.toNat) hx hb dX4_tell_34 (tgt := 41) (by decide) ⟨by omega, by omega⟩ (fun c_34 => ?_) (fun c_34 => ?_)
    · have c_34_ := c_34
      refine lv_aload_n (pc := 41) hx hb dX4_tell_41 rfl (lv_at hl 0 rfl) ?_
      refine r_get (pc := 42) hC hK hP (in_pl (List.mem_append_left _ ho_w1.1.1) ((va_up_ne _ _ (fun hz : (eL i) = q2 => hq2 (hz ▸ ho_w1.1.1))).trans ho_w1.1.2)) (hc := rfl) (fun w h => wt_4 w h) 3 (by decide) m_3_8 (fun _ h => h) (v := .int (iv (G 6 i.toNat))) rfl dX4_tell_42 ?_
      refine c_callI (pc := 45) (y := yX2_init) (As := [.int (iv i), .int (iv (G 6 i.toNat))]) (rest := [.ref q2, .ref aT]) hC hE hP hD hS hl.1 (c_N_init l ε X (L ++ [q2]) (va_up f q2 (.inr (3, [.int (iv 0), .int (iv 0)]))) q2 (List.mem_append_right _ (List.mem_singleton.mpr rfl)) (va_up_self _ _ _) (i) (G 6 i.toNat)) m_10_11 m_10_12 m_10_9 m_10_13 rfl hd_yX2_init rfl ⟨⟨by decide, by decide⟩, by decide, by decide⟩ (Nat.le_of_ble_eq_true rfl) rfl dX4_tell_45 (fun v ws1 H locs hq hP hD hS => ?_)
      rw [hq.2] at hP hD
      rw [hq.1]
      dsimp only [Option.toList, List.cons_append, List.nil_append]
      replace hP : WP ε (X ++ va_pl (L ++ [q2]) (va_up (va_up f q2 (.inr (3, [.int (iv 0), .int (iv 0)]))) q2 (.inr (3, [.int (iv i), .int (iv (G 6 i.toNat))])))) H := hP
      replace hD : WD ε (X ++ va_pl (L ++ [q2]) (va_up (va_up f q2 (.inr (3, [.int (iv 0), .int (iv 0)]))) q2 (.inr (3, [.int (iv i), .int (iv (G 6 i.toNat))])))) := hD
      rw [up_up] at hP hD
      replace hP : WP ε (X ++ va_pl (L ++ [q2]) (va_up f q2 (.inr (3, [.int (iv i), .int (iv (G 6 i.toNat))])))) H := hP
      replace hD : WD ε (X ++ va_pl (L ++ [q2]) (va_up f q2 (.inr (3, [.int (iv i), .int (iv (G 6 i.toNat))])))) := hD
      have kq := KEEP.push (f := f) (ρ := ρ) (e := .inr (3, [.int (iv i), .int (iv (G 6 i.toNat))])) (r := 5000 + n 3) hq2
      have hlq := hlT.keep kq (fun z => z) (fun z => z)
      obtain ⟨md_48, ed_48, ho_48, -⟩ := (LISTR.map IP.IN hlq).own
      refine c_callV (pc := 48) (y := yJx4a65c_add_9ea2d) (As := [.ref q2]) (rest := []) hC hE hP hD hS hl.1 (c_A_add l ε X (L ++ [q2]) (va_up f q2 (.inr (3, [.int (iv i), .int (iv (G 6 i.toNat))]))) _ hlq ⟨by omega, by omega⟩ 3 (RX2, TX2, 2) rfl (by decide) (by decide) (fun j a b => ⟨(kq _ _ _ (RXC.notIn hRC a b) (fun z => z)).1.1, _, (kq _ _ _ (RXC.notIn hRC a b) (fun z => z)).1.2⟩) q2 _ (List.mem_append_right _ (List.mem_singleton.mpr rfl)) (va_up_self _ _ _)) m_6_22 m_6_23 m_6_24 m_0_24 m_7_0 ho_48 rfl hd_yJx4a65c_add_9ea2d rfl ⟨⟨by decide, by decide⟩, by decide, by decide⟩ (Nat.le_of_ble_eq_true rfl) rfl dX4_tell_48 kxN (fun v ws1 H locs hq hP hD hS => ?_)
      obtain ⟨hv_, L2, f2, ρ2, hw_, hk2, hl2⟩ := hq
      rw [hw_] at hP hD
      rw [hv_]
      clear hv_ hw_
      dsimp only [Option.toList, List.cons_append, List.nil_append]
      have hx2 := hk2 _ _ _ (kq _ _ _ hx0 (fun z => z)) (by decide)
      refine lv_pop (pc := 51) hx hb dX4_tell_51 rfl ?_
      refine lv_aload_n (pc := 52) hx hb dX4_tell_52 rfl (lv_at hl 1 rfl) ?_
      refine r_get (pc := 53) hC hK hP (in_pl hx2.1.1 hx2.1.2) (hc := rfl) (fun w h => wt_0 w h) 4 (by decide) m_1_2 (fun _ h => h) (v := .ref aT) rfl dX4_tell_53 ?_
      obtain ⟨md_56, ed_56, ho_56, -⟩ := (LISTR.map IP.IN hl2).own
      refine c_callV (pc := 56) (y := yJx4a65c_size_8abf5) (As := []) (rest := []) hC hE hP hD hS hl.1 (c_A_sizeL l ε (X ++ va_pl L2 f2) (LISTR.map IP.IN hl2)) m_2_3 m_2_4 m_2_5 m_0_24 m_2_6 ho_56 rfl hd_yJx4a65c_size_8abf5 rfl ⟨⟨by decide, by decide⟩, by decide, by decide⟩ (Nat.le_of_ble_eq_true rfl) rfl dX4_tell_56 kxN (fun v ws1 H locs hq hP hD hS => ?_)
      rw [hq.2] at hP hD
      rw [hq.1]
      dsimp only [Option.toList, List.cons_append, List.nil_append]
      refine lv_iconst (pc := 59) (v := iv 1) hx hb dX4_tell_59 rfl ?_
      refine r_isub (pc := 60) (a := n 3 + 1) (b := 1) hx hb dX4_tell_60 ?_
      refine c_iret (pc := 61) hC hQ hP hD hS (by decide) (by decide) dX4_tell_61 ?_
      exact ⟨by rw [show n 3 + 1 - 1 = n 3 by omega], L2, f2, ρ2, rfl, RXC.tell hRC hq2 hnb.2.1.1 hi.1 h6 (by rw [if_pos (by omega)]) hk2 hl2⟩
    · have c_34_ := c_34
      refine lv_iconst (pc := 37) (v := iv (-1)) hx hb dX4_tell_37 rfl ?_
      refine lv_goto (pc := 38) (tgt := 45) hx hb dX4_tell_38 (by decide) ?_
      refine c_callI (pc := 45) (y := yX2_init) (As := [.int (iv i), .int (iv ((-1)))]) (rest := [.ref q2, .ref aT]) hC hE hP hD hS hl.1 (c_N_init l ε X (L ++ [q2]) (va_up f q2 (.inr (3, [.int (iv 0), .int (iv 0)]))) q2 (List.mem_append_right _ (List.mem_singleton.mpr rfl)) (va_up_self _ _ _) (i) ((-1))) m_10_11 m_10_12 m_10_9 m_10_13 rfl hd_yX2_init rfl ⟨⟨by decide, by decide⟩, by decide, by decide⟩ (Nat.le_of_ble_eq_true rfl) rfl dX4_tell_45 (fun v ws1 H locs hq hP hD hS => ?_)
      rw [hq.2] at hP hD
      rw [hq.1]
      dsimp only [Option.toList, List.cons_append, List.nil_append]
      replace hP : WP ε (X ++ va_pl (L ++ [q2]) (va_up (va_up f q2 (.inr (3, [.int (iv 0), .int (iv 0)]))) q2 (.inr (3, [.int (iv i), .int (iv ((-1)))])))) H := hP
      replace hD : WD ε (X ++ va_pl (L ++ [q2]) (va_up (va_up f q2 (.inr (3, [.int (iv 0), .int (iv 0)]))) q2 (.inr (3, [.int (iv i), .int (iv ((-1)))])))) := hD
      rw [up_up] at hP hD
      replace hP : WP ε (X ++ va_pl (L ++ [q2]) (va_up f q2 (.inr (3, [.int (iv i), .int (iv ((-1)))])))) H := hP
      replace hD : WD ε (X ++ va_pl (L ++ [q2]) (va_up f q2 (.inr (3, [.int (iv i), .int (iv ((-1)))])))) := hD
      have kq := KEEP.push (f := f) (ρ := ρ) (e := .inr (3, [.int (iv i), .int (iv ((-1)))])) (r := 5000 + n 3) hq2
      have hlq := hlT.keep kq (fun z => z) (fun z => z)
      obtain ⟨md_48, ed_48, ho_48, -⟩ := (LISTR.map IP.IN hlq).own
      refine c_callV (pc := 48) (y := yJx4a65c_add_9ea2d) (As := [.ref q2]) (rest := []) hC hE hP hD hS hl.1 (c_A_add l ε X (L ++ [q2]) (va_up f q2 (.inr (3, [.int (iv i), .int (iv ((-1)))]))) _ hlq ⟨by omega, by omega⟩ 3 (RX2, TX2, 2) rfl (by decide) (by decide) (fun j a b => ⟨(kq _ _ _ (RXC.notIn hRC a b) (fun z => z)).1.1, _, (kq _ _ _ (RXC.notIn hRC a b) (fun z => z)).1.2⟩) q2 _ (List.mem_append_right _ (List.mem_singleton.mpr rfl)) (va_up_self _ _ _)) m_6_22 m_6_23 m_6_24 m_0_24 m_7_0 ho_48 rfl hd_yJx4a65c_add_9ea2d rfl ⟨⟨by decide, by decide⟩, by decide, by decide⟩ (Nat.le_of_ble_eq_true rfl) rfl dX4_tell_48 kxN (fun v ws1 H locs hq hP hD hS => ?_)
      obtain ⟨hv_, L2, f2, ρ2, hw_, hk2, hl2⟩ := hq
      rw [hw_] at hP hD
      rw [hv_]
      clear hv_ hw_
      dsimp only [Option.toList, List.cons_append, List.nil_append]
      have hx2 := hk2 _ _ _ (kq _ _ _ hx0 (fun z => z)) (by decide)
      refine lv_pop (pc := 51) hx hb dX4_tell_51 rfl ?_
      refine lv_aload_n (pc := 52) hx hb dX4_tell_52 rfl (lv_at hl 1 rfl) ?_
      refine r_get (pc := 53) hC hK hP (in_pl hx2.1.1 hx2.1.2) (hc := rfl) (fun w h => wt_0 w h) 4 (by decide) m_1_2 (fun _ h => h) (v := .ref aT) rfl dX4_tell_53 ?_
      obtain ⟨md_56, ed_56, ho_56, -⟩ := (LISTR.map IP.IN hl2).own
      refine c_callV (pc := 56) (y := yJx4a65c_size_8abf5) (As := []) (rest := []) hC hE hP hD hS hl.1 (c_A_sizeL l ε (X ++ va_pl L2 f2) (LISTR.map IP.IN hl2)) m_2_3 m_2_4 m_2_5 m_0_24 m_2_6 ho_56 rfl hd_yJx4a65c_size_8abf5 rfl ⟨⟨by decide, by decide⟩, by decide, by decide⟩ (Nat.le_of_ble_eq_true rfl) rfl dX4_tell_56 kxN (fun v ws1 H locs hq hP hD hS => ?_)
      rw [hq.2] at hP hD
      rw [hq.1]
      dsimp only [Option.toList, List.cons_append, List.nil_append]
      refine lv_iconst (pc := 59) (v := iv 1) hx hb dX4_tell_59 rfl ?_
      refine r_isub (pc := 60) (a := n 3 + 1) (b := 1) hx hb dX4_tell_60 ?_
      refine c_iret (pc := 61) hC hQ hP hD hS (by decide) (by decide) dX4_tell_61 ?_
      exact ⟨by rw [show n 3 + 1 - 1 = n 3 by omega], L2, f2, ρ2, rfl, RXC.tell hRC hq2 hnb.2.1.1 hi.1 h6 (by rw [if_neg (by omega)]) hk2 hl2⟩
  · have c_10_ := c_10
    omega
