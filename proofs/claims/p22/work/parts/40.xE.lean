abbrev rm_c_R_period : Room := { frames := 8, cells := 1, slots := 6, locals := 180 }
set_option maxRecDepth 100000 in
set_option maxHeartbeats 4000000 in
theorem c_R_period (l : Launch) (ε : EV) (ws : va_W) (hst : l.stackTraces = false) (x : Nat) (n : Nat → Int) (G : Nat → Nat → Int) (hR : RX (IN ws) ε x n G) (hN : NB n) (hV : VPat n G) (hL : VLam n G) (q : Int) (rq : rg q) : CT l yX4_period cX4_period 2 (some .int) rm_c_R_period ε [.ref x, .int (iv q)] (ws) (fun v w => (0 ≤ q ∧ q < n 1) ∧ v = some (.int (iv (G 3 q.toNat))) ∧ w = ws) (fun E w => ¬ (0 ≤ q ∧ q < n 1) ∧ E = nIOE ∧ w = ws) := by
  refine CT.intro (by decide +kernel) (Nat.le_of_ble_eq_true rfl) ?_
  intro p9 e9 s9 m9 a9 bl9 me9 c9 ls Q9 hC hE hP hD hl hQ
  have hx := hC.1
  have hb := hC.2.1
  have hK := hE.K
  have hS : WS ε s9.heap s9.heap [] := va_S.rf
  have hl : lv_has ls 2 [(0, .ref x), (1, .int (iv q))] := hl
  obtain ⟨H, hH⟩ : ∃ H, H = s9.heap := ⟨_, rfl⟩
  obtain ⟨locs, hlo⟩ : ∃ z : List Loc, z = [] := ⟨_, rfl⟩
  rw [← hH] at hP ⊢
  have hS : WS ε s9.heap H locs := by rw [hH, hlo]; exact hS
  rw [← hlo]
  clear hH hlo
  obtain ⟨dr, aP, aL, aT, aC, Dr, eP, eL, eT, eC, hx0, hxD, hlP, hlL, hlT, hlC, hpP, hpL, hpT, hpC⟩ := id hR
  have hnb := hN
  obtain ⟨mdP, edP, hoP, -⟩ := id hlP
  obtain ⟨mdL, edL, hoL, -⟩ := id hlL
  obtain ⟨mdT, edT, hoT, -⟩ := id hlT
  obtain ⟨mdC, edC, hoC, -⟩ := id hlC
  refine lv_aload_n (pc := 0) hx hb dX4_period_0 rfl (lv_at hl 0 rfl) ?_
  refine lv_iload_n (pc := 1) hx hb dX4_period_1 rfl (lv_at hl 1 rfl) ?_
  refine c_callV (pc := 2) (y := yX4_patternAt) (As := [.int (iv q)]) (rest := []) hC hE hP hD hS hl.1 (c_R_patternAt l ε ws hst x n G hR hN (q) ⟨by omega, by omega⟩) m_3_9 m_3_10 m_3_11 m_0_2 m_3_12 hx0 rfl hd_yX4_patternAt rfl ⟨⟨by decide, by decide⟩, by decide, by decide⟩ (Nat.le_of_ble_eq_true rfl) rfl dX4_period_2 (fun E ce q9 ws1 H1 locs1 hq hP hD hS h1 h2 h3 => c_out hC hQ hP hD hS h1 h2 h3 (by decide) (by decide) (hq)) (fun v ws1 H locs hq hP hD hS => ?_)
  obtain ⟨⟨al_k1, hc_k1, hr_k1, hv_⟩, hw_⟩ := hq
  rw [hw_] at hP hD
  rw [hv_]
  clear hv_ hw_
  dsimp only [Option.toList, List.cons_append, List.nil_append]
  obtain ⟨p_o2, l_o2, y_o2, -, -, ho_o2, -⟩ := id hr_k1
  refine r_get (pc := 5) hC hK hP ho_o2 (hc := rfl) (fun w h => wt_3 w h) 0 (by decide) m_8_19 (fun _ h => h) (v := .int (iv (G 3 q.toNat))) rfl dX4_period_5 ?_
  refine c_iret (pc := 8) hC hQ hP hD hS (by decide) (by decide) dX4_period_8 ?_
  exact ⟨by omega, rfl, rfl⟩

abbrev rm_c_R_areAlike : Room := { frames := 8, cells := 2, slots := 12, locals := 180 }
set_option maxRecDepth 100000 in
set_option maxHeartbeats 4000000 in
theorem c_R_areAlike (l : Launch) (ε : EV) (ws : va_W) (hst : l.stackTraces = false) (x : Nat) (n : Nat → Int) (G : Nat → Nat → Int) (hR : RX (IN ws) ε x n G) (hN : NB n) (hV : VPat n G) (hL : VLam n G) (q : Int) (rq : rg q) (r : Int) (rr : rg r) : CT l yX4_areAlike cX4_areAlike 3 (some .boolean) rm_c_R_areAlike ε [.ref x, .int (iv q), .int (iv r)] (ws) (fun v w => ((0 ≤ q ∧ q < n 1) ∧ 0 ≤ r ∧ r < n 1) ∧ v = some (.int (iv (bz (tb (PH1 G q r))))) ∧ w = ws) (fun E w => ¬ ((0 ≤ q ∧ q < n 1) ∧ 0 ≤ r ∧ r < n 1) ∧ E = nIOE ∧ w = ws) := by
  refine CT.intro (by decide +kernel) (Nat.le_of_ble_eq_true rfl) ?_
  intro p9 e9 s9 m9 a9 bl9 me9 c9 ls Q9 hC hE hP hD hl hQ
  have hx := hC.1
  have hb := hC.2.1
  have hK := hE.K
  have hS : WS ε s9.heap s9.heap [] := va_S.rf
  have hl : lv_has ls 3 [(0, .ref x), (1, .int (iv q)), (2, .int (iv r))] := hl
  obtain ⟨H, hH⟩ : ∃ H, H = s9.heap := ⟨_, rfl⟩
  obtain ⟨locs, hlo⟩ : ∃ z : List Loc, z = [] := ⟨_, rfl⟩
  rw [← hH] at hP ⊢
  have hS : WS ε s9.heap H locs := by rw [hH, hlo]; exact hS
  rw [← hlo]
  clear hH hlo
  obtain ⟨dr, aP, aL, aT, aC, Dr, eP, eL, eT, eC, hx0, hxD, hlP, hlL, hlT, hlC, hpP, hpL, hpT, hpC⟩ := id hR
  have hnb := hN
  obtain ⟨mdP, edP, hoP, -⟩ := id hlP
  obtain ⟨mdL, edL, hoL, -⟩ := id hlL
  obtain ⟨mdT, edT, hoT, -⟩ := id hlT
  obtain ⟨mdC, edC, hoC, -⟩ := id hlC
  refine lv_aload_n (pc := 0) hx hb dX4_areAlike_0 rfl (lv_at hl 0 rfl) ?_
  refine lv_iload_n (pc := 1) hx hb dX4_areAlike_1 rfl (lv_at hl 1 rfl) ?_
  refine c_callV (pc := 2) (y := yX4_patternAt) (As := [.int (iv q)]) (rest := []) hC hE hP hD hS hl.1 (c_R_patternAt l ε ws hst x n G hR hN (q) ⟨by omega, by omega⟩) m_3_9 m_3_10 m_3_11 m_0_2 m_3_12 hx0 rfl hd_yX4_patternAt rfl ⟨⟨by decide, by decide⟩, by decide, by decide⟩ (Nat.le_of_ble_eq_true rfl) rfl dX4_areAlike_2 (fun E ce q9 ws1 H1 locs1 hq hP hD hS h1 h2 h3 => c_out hC hQ hP hD hS h1 h2 h3 (by decide) (by decide) (⟨fun z => hq.1 z.1, hq.2⟩)) (fun v ws1 H locs hq hP hD hS => ?_)
  obtain ⟨⟨al_k1, hc_k1, hr_k1, hv_⟩, hw_⟩ := hq
  rw [hw_] at hP hD
  rw [hv_]
  clear hv_ hw_
  dsimp only [Option.toList, List.cons_append, List.nil_append]
  obtain ⟨p_o2, l_o2, y_o2, -, -, ho_o2, -⟩ := id hr_k1
  refine lv_aload_n (pc := 5) hx hb dX4_areAlike_5 rfl (lv_at hl 0 rfl) ?_
  refine lv_iload_n (pc := 6) hx hb dX4_areAlike_6 rfl (lv_at hl 2 rfl) ?_
  refine c_callV (pc := 7) (y := yX4_patternAt) (As := [.int (iv r)]) (rest := [.ref al_k1]) hC hE hP hD hS hl.1 (c_R_patternAt l ε ws hst x n G hR hN (r) ⟨by omega, by omega⟩) m_3_9 m_3_10 m_3_11 m_0_2 m_3_12 hx0 rfl hd_yX4_patternAt rfl ⟨⟨by decide, by decide⟩, by decide, by decide⟩ (Nat.le_of_ble_eq_true rfl) rfl dX4_areAlike_7 (fun E ce q9 ws1 H1 locs1 hq hP hD hS h1 h2 h3 => c_out hC hQ hP hD hS h1 h2 h3 (by decide) (by decide) (⟨fun z => hq.1 z.2, hq.2⟩)) (fun v ws1 H locs hq hP hD hS => ?_)
  obtain ⟨⟨al_k3, hc_k3, hr_k3, hv_⟩, hw_⟩ := hq
  rw [hw_] at hP hD
  rw [hv_]
  clear hv_ hw_
  dsimp only [Option.toList, List.cons_append, List.nil_append]
  obtain ⟨p_o4, l_o4, y_o4, -, -, ho_o4, -⟩ := id hr_k3
  refine c_callV (pc := 10) (y := yX3_hasPhasesOf) (As := [.ref al_k3]) (rest := []) hC hE hP hD hS hl.1 (c_P_phases l ε ws hr_k1 (hV.q (q := q) (by omega) (by omega)) hr_k3 (hV.q (q := r) (by omega) (by omega))) m_3_20 m_3_21 m_3_22 m_3_23 m_3_24 ho_o2 rfl hd_yX3_hasPhasesOf rfl ⟨⟨by decide, by decide⟩, by decide, by decide⟩ (Nat.le_of_ble_eq_true rfl) rfl dX4_areAlike_10 kxN (fun v ws1 H locs hq hP hD hS => ?_)
  rw [hq.2] at hP hD
  rw [hq.1]
  dsimp only [Option.toList, List.cons_append, List.nil_append]
  refine c_zret (pc := 13) hC hQ hP hD hS (by decide) (by decide) dX4_areAlike_13 (nz_b _) ?_
  exact ⟨by omega, rfl, rfl⟩

abbrev rm_c_R_areAlikeBySeconds : Room := { frames := 8, cells := 2, slots := 12, locals := 180 }
set_option maxRecDepth 100000 in
set_option maxHeartbeats 4000000 in
theorem c_R_areAlikeBySeconds (l : Launch) (ε : EV) (ws : va_W) (hst : l.stackTraces = false) (x : Nat) (n : Nat → Int) (G : Nat → Nat → Int) (hR : RX (IN ws) ε x n G) (hN : NB n) (hV : VPat n G) (hL : VLam n G) (q : Int) (rq : rg q) (r : Int) (rr : rg r) : CT l yX4_areAlikeBySeconds cX4_areAlikeBySeconds 3 (some .boolean) rm_c_R_areAlikeBySeconds ε [.ref x, .int (iv q), .int (iv r)] (ws) (fun v w => ((0 ≤ q ∧ q < n 1) ∧ 0 ≤ r ∧ r < n 1) ∧ v = some (.int (iv (bz (tb (SC1 G q r))))) ∧ w = ws) (fun E w => ¬ ((0 ≤ q ∧ q < n 1) ∧ 0 ≤ r ∧ r < n 1) ∧ E = nIOE ∧ w = ws) := by
  refine CT.intro (by decide +kernel) (Nat.le_of_ble_eq_true rfl) ?_
  intro p9 e9 s9 m9 a9 bl9 me9 c9 ls Q9 hC hE hP hD hl hQ
  have hx := hC.1
  have hb := hC.2.1
  have hK := hE.K
  have hS : WS ε s9.heap s9.heap [] := va_S.rf
  have hl : lv_has ls 3 [(0, .ref x), (1, .int (iv q)), (2, .int (iv r))] := hl
  obtain ⟨H, hH⟩ : ∃ H, H = s9.heap := ⟨_, rfl⟩
  obtain ⟨locs, hlo⟩ : ∃ z : List Loc, z = [] := ⟨_, rfl⟩
  rw [← hH] at hP ⊢
  have hS : WS ε s9.heap H locs := by rw [hH, hlo]; exact hS
  rw [← hlo]
  clear hH hlo
  obtain ⟨dr, aP, aL, aT, aC, Dr, eP, eL, eT, eC, hx0, hxD, hlP, hlL, hlT, hlC, hpP, hpL, hpT, hpC⟩ := id hR
  have hnb := hN
  obtain ⟨mdP, edP, hoP, -⟩ := id hlP
  obtain ⟨mdL, edL, hoL, -⟩ := id hlL
  obtain ⟨mdT, edT, hoT, -⟩ := id hlT
  obtain ⟨mdC, edC, hoC, -⟩ := id hlC
  refine lv_aload_n (pc := 0) hx hb dX4_areAlikeBySeconds_0 rfl (lv_at hl 0 rfl) ?_
  refine lv_iload_n (pc := 1) hx hb dX4_areAlikeBySeconds_1 rfl (lv_at hl 1 rfl) ?_
  refine c_callV (pc := 2) (y := yX4_patternAt) (As := [.int (iv q)]) (rest := []) hC hE hP hD hS hl.1 (c_R_patternAt l ε ws hst x n G hR hN (q) ⟨by omega, by omega⟩) m_3_9 m_3_10 m_3_11 m_0_2 m_3_12 hx0 rfl hd_yX4_patternAt rfl ⟨⟨by decide, by decide⟩, by decide, by decide⟩ (Nat.le_of_ble_eq_true rfl) rfl dX4_areAlikeBySeconds_2 (fun E ce q9 ws1 H1 locs1 hq hP hD hS h1 h2 h3 => c_out hC hQ hP hD hS h1 h2 h3 (by decide) (by decide) (⟨fun z => hq.1 z.1, hq.2⟩)) (fun v ws1 H locs hq hP hD hS => ?_)
  obtain ⟨⟨al_k1, hc_k1, hr_k1, hv_⟩, hw_⟩ := hq
  rw [hw_] at hP hD
  rw [hv_]
  clear hv_ hw_
  dsimp only [Option.toList, List.cons_append, List.nil_append]
  obtain ⟨p_o2, l_o2, y_o2, -, -, ho_o2, -⟩ := id hr_k1
  refine lv_aload_n (pc := 5) hx hb dX4_areAlikeBySeconds_5 rfl (lv_at hl 0 rfl) ?_
  refine lv_iload_n (pc := 6) hx hb dX4_areAlikeBySeconds_6 rfl (lv_at hl 2 rfl) ?_
  refine c_callV (pc := 7) (y := yX4_patternAt) (As := [.int (iv r)]) (rest := [.ref al_k1]) hC hE hP hD hS hl.1 (c_R_patternAt l ε ws hst x n G hR hN (r) ⟨by omega, by omega⟩) m_3_9 m_3_10 m_3_11 m_0_2 m_3_12 hx0 rfl hd_yX4_patternAt rfl ⟨⟨by decide, by decide⟩, by decide, by decide⟩ (Nat.le_of_ble_eq_true rfl) rfl dX4_areAlikeBySeconds_7 (fun E ce q9 ws1 H1 locs1 hq hP hD hS h1 h2 h3 => c_out hC hQ hP hD hS h1 h2 h3 (by decide) (by decide) (⟨fun z => hq.1 z.2, hq.2⟩)) (fun v ws1 H locs hq hP hD hS => ?_)
  obtain ⟨⟨al_k3, hc_k3, hr_k3, hv_⟩, hw_⟩ := hq
  rw [hw_] at hP hD
  rw [hv_]
  clear hv_ hw_
  dsimp only [Option.toList, List.cons_append, List.nil_append]
  obtain ⟨p_o4, l_o4, y_o4, -, -, ho_o4, -⟩ := id hr_k3
  refine c_callV (pc := 10) (y := yX3_hasSecondsOf) (As := [.ref al_k3]) (rest := []) hC hE hP hD hS hl.1 (c_P_seconds l ε ws hr_k1 (hV.q (q := q) (by omega) (by omega)) hr_k3 (hV.q (q := r) (by omega) (by omega))) m_9_3 m_9_4 m_9_5 m_3_23 m_9_6 ho_o2 rfl hd_yX3_hasSecondsOf rfl ⟨⟨by decide, by decide⟩, by decide, by decide⟩ (Nat.le_of_ble_eq_true rfl) rfl dX4_areAlikeBySeconds_10 kxN (fun v ws1 H locs hq hP hD hS => ?_)
  rw [hq.2] at hP hD
  rw [hq.1]
  dsimp only [Option.toList, List.cons_append, List.nil_append]
  refine c_zret (pc := 13) hC hQ hP hD hS (by decide) (by decide) dX4_areAlikeBySeconds_13 (nz_b _) ?_
  exact ⟨by omega, rfl, rfl⟩

abbrev rm_c_R_shines : Room := { frames := 8, cells := 2, slots := 12, locals := 180 }
set_option maxRecDepth 100000 in
set_option maxHeartbeats 4000000 in
theorem c_R_shines (l : Launch) (ε : EV) (ws : va_W) (hst : l.stackTraces = false) (x : Nat) (n : Nat → Int) (G : Nat → Nat → Int) (hR : RX (IN ws) ε x n G) (hN : NB n) (hV : VPat n G) (hL : VLam n G) (i : Int) (ri : rg i) (t : Int) (rt : rg t) : CT l yX4_shines cX4_shines 4 (some .boolean) rm_c_R_shines ε [.ref x, .int (iv i), .int (iv t)] (ws) (fun v w => ((0 ≤ i ∧ i < n 2) ∧ (0 ≤ t ∧ t ≤ 100000)) ∧ v = some (.int (iv (bz (ON G i t)))) ∧ w = ws) (fun E w => (¬ (0 ≤ i ∧ i < n 2) ∧ E = nIOE ∧ w = ws) ∨ (((0 ≤ i ∧ i < n 2) ∧ ¬ (0 ≤ t ∧ t ≤ 100000)) ∧ E = nIAE ∧ w = ws)) := by
  refine CT.intro (by decide +kernel) (Nat.le_of_ble_eq_true rfl) ?_
  intro p9 e9 s9 m9 a9 bl9 me9 c9 ls Q9 hC hE hP hD hl hQ
  have hx := hC.1
  have hb := hC.2.1
  have hK := hE.K
  have hS : WS ε s9.heap s9.heap [] := va_S.rf
  have hl : lv_has ls 4 [(0, .ref x), (1, .int (iv i)), (2, .int (iv t))] := hl
  obtain ⟨H, hH⟩ : ∃ H, H = s9.heap := ⟨_, rfl⟩
  obtain ⟨locs, hlo⟩ : ∃ z : List Loc, z = [] := ⟨_, rfl⟩
  rw [← hH] at hP ⊢
  have hS : WS ε s9.heap H locs := by rw [hH, hlo]; exact hS
  rw [← hlo]
  clear hH hlo
  obtain ⟨dr, aP, aL, aT, aC, Dr, eP, eL, eT, eC, hx0, hxD, hlP, hlL, hlT, hlC, hpP, hpL, hpT, hpC⟩ := id hR
  have hnb := hN
  obtain ⟨mdP, edP, hoP, -⟩ := id hlP
  obtain ⟨mdL, edL, hoL, -⟩ := id hlL
  obtain ⟨mdT, edT, hoT, -⟩ := id hlT
  obtain ⟨mdC, edC, hoC, -⟩ := id hlC
  refine lv_aload_n (pc := 0) hx hb dX4_shines_0 rfl (lv_at hl 0 rfl) ?_
  refine lv_iload_n (pc := 1) hx hb dX4_shines_1 rfl (lv_at hl 1 rfl) ?_
  refine c_callV (pc := 2) (y := yX4_lampAt) (As := [.int (iv i)]) (rest := []) hC hE hP hD hS hl.1 (c_R_lampAt l ε ws hst x n G hR hN (i) ⟨by omega, by omega⟩) m_9_20 m_9_21 m_9_22 m_0_2 m_9_23 hx0 rfl hd_yX4_lampAt rfl ⟨⟨by decide, by decide⟩, by decide, by decide⟩ (Nat.le_of_ble_eq_true rfl) rfl dX4_shines_2 (fun E ce q9 ws1 H1 locs1 hq hP hD hS h1 h2 h3 => c_out hC hQ hP hD hS h1 h2 h3 (by decide) (by decide) (Or.inl hq)) (fun v ws1 H locs hq hP hD hS => ?_)
  obtain ⟨⟨al_k1, hc_k1, hr_k1, hv_⟩, hw_⟩ := hq
  rw [hw_] at hP hD
  rw [hv_]
  clear hv_ hw_
  dsimp only [Option.toList, List.cons_append, List.nil_append]
  obtain ⟨s_o2, -, ho_o2, -⟩ := hr_k1.obj
  refine lv_astore_n (lv' := [(3, .ref al_k1), (0, .ref x), (1, .int (iv i)), (2, .int (iv t))]) (pc := 5) hx hb dX4_shines_5 rfl hl (by decide) rfl (fun ls hl => ?_)
  refine lv_iload_n (pc := 6) hx hb dX4_shines_6 rfl (lv_at hl 3 rfl) ?_
  refine lv_iconst (pc := 7) (v := iv 0) hx hb dX4_shines_7 rfl ?_
  refine lv_ldc (pc := 8) (own := RX4) (v := iv 100000) hx hb hC.2.2.2.1 (by rw [show iv 100000 = (100000 : Int32) by decide]; exact hC.2.2.2.2.1 _ m_11_0) dX4_shines_8 ?_
  refine c_callS (pc := 10) (y := yX4_requireWithin) (As := [.int (iv t), .int (iv 0), .int (iv 100000)]) (rest := []) hC hE hP hD hS hl.1 (c_R_within l ε ws hst (t) (0) (100000) ⟨by omega, by omega⟩ ⟨by omega, by omega⟩ ⟨by omega, by omega⟩) m_5_5 m_5_6 m_0_2 m_5_7 hd_yX4_requireWithin rfl ⟨⟨by decide, by decide⟩, by decide, by decide⟩ (Nat.le_of_ble_eq_true rfl) rfl dX4_shines_10 (fun E ce q9 ws1 H1 locs1 hq hP hD hS h1 h2 h3 => c_out hC hQ hP hD hS h1 h2 h3 (by decide) (by decide) (Or.inr ⟨⟨by omega, fun z => hq.1 z⟩, hq.2⟩)) (fun v ws1 H locs hq hP hD hS => ?_)
  obtain ⟨hg3, hv_, hw_⟩ := hq
  rw [hw_] at hP hD
  rw [hv_]
  clear hv_ hw_
  dsimp only [Option.toList, List.cons_append, List.nil_append]
  refine lv_aload_n (pc := 13) hx hb dX4_shines_13 rfl (lv_at hl 1 rfl) ?_
  refine lv_aload_n (pc := 14) hx hb dX4_shines_14 rfl (lv_at hl 0 rfl) ?_
  refine lv_iload_n (pc := 15) hx hb dX4_shines_15 rfl (lv_at hl 3 rfl) ?_
  refine c_callV (pc := 16) (y := yX4_isLit) (As := [.ref al_k1, .int (iv t)]) (rest := []) hC hE hP hD hS hl.1 (c_R_isLit l ε ws x n G hR hN hV hL al_k1 (i) ⟨by omega, by omega⟩ hr_k1 (t) ⟨by omega, by omega⟩) m_11_1 m_11_2 m_11_3 m_0_2 m_11_4 hx0 rfl hd_yX4_isLit rfl ⟨⟨by decide, by decide⟩, by decide, by decide⟩ (Nat.le_of_ble_eq_true rfl) rfl dX4_shines_16 kxN (fun v ws1 H locs hq hP hD hS => ?_)
  rw [hq.2] at hP hD
  rw [hq.1]
  dsimp only [Option.toList, List.cons_append, List.nil_append]
  refine c_zret (pc := 19) hC hQ hP hD hS (by decide) (by decide) dX4_shines_19 (nz_b _) ?_
  exact ⟨⟨by omega, by omega⟩, rfl, rfl⟩

abbrev rm_c_R_sector : Room := { frames := 8, cells := 3, slots := 18, locals := 180 }
set_option maxRecDepth 100000 in
set_option maxHeartbeats 4000000 in
theorem c_R_sector (l : Launch) (ε : EV) (ws : va_W) (hst : l.stackTraces = false) (x : Nat) (n : Nat → Int) (G : Nat → Nat → Int) (hR : RX (IN ws) ε x n G) (hN : NB n) (hV : VPat n G) (hL : VLam n G) (i : Int) (ri : rg i) (x9 y9 : Int) (rx : rg x9) (ry : rg y9) : CT l yX4_sector cX4_sector 5 (some .int) rm_c_R_sector ε [.ref x, .int (iv i), .int (iv x9), .int (iv y9)] (ws) (fun v w => ((0 ≤ i ∧ i < n 2) ∧ (0 ≤ x9 ∧ x9 ≤ 31) ∧ 0 ≤ y9 ∧ y9 ≤ 31) ∧ v = some (.int (iv (sectP (x9 - G 4 i.toNat) (y9 - G 5 i.toNat)))) ∧ w = ws) (fun E w => (¬ (0 ≤ i ∧ i < n 2) ∧ E = nIOE ∧ w = ws) ∨ (((0 ≤ i ∧ i < n 2) ∧ ¬ ((0 ≤ x9 ∧ x9 ≤ 31) ∧ 0 ≤ y9 ∧ y9 ≤ 31)) ∧ E = nIAE ∧ w = ws)) := by
  refine CT.intro (by decide +kernel) (Nat.le_of_ble_eq_true rfl) ?_
  intro p9 e9 s9 m9 a9 bl9 me9 c9 ls Q9 hC hE hP hD hl hQ
  have hx := hC.1
  have hb := hC.2.1
  have hK := hE.K
  have hS : WS ε s9.heap s9.heap [] := va_S.rf
  have hl : lv_has ls 5 [(0, .ref x), (1, .int (iv i)), (2, .int (iv x9)), (3, .int (iv y9))] := hl
  obtain ⟨H, hH⟩ : ∃ H, H = s9.heap := ⟨_, rfl⟩
  obtain ⟨locs, hlo⟩ : ∃ z : List Loc, z = [] := ⟨_, rfl⟩
  rw [← hH] at hP ⊢
  have hS : WS ε s9.heap H locs := by rw [hH, hlo]; exact hS
  rw [← hlo]
  clear hH hlo
  obtain ⟨dr, aP, aL, aT, aC, Dr, eP, eL, eT, eC, hx0, hxD, hlP, hlL, hlT, hlC, hpP, hpL, hpT, hpC⟩ := id hR
  have hnb := hN
  obtain ⟨mdP, edP, hoP, -⟩ := id hlP
  obtain ⟨mdL, edL, hoL, -⟩ := id hlL
  obtain ⟨mdT, edT, hoT, -⟩ := id hlT
  obtain ⟨mdC, edC, hoC, -⟩ := id hlC
  refine lv_aload_n (pc := 0) hx hb dX4_sector_0 rfl (lv_at hl 0 rfl) ?_
  refine lv_iload_n (pc := 1) hx hb dX4_sector_1 rfl (lv_at hl 1 rfl) ?_
  refine c_callV (pc := 2) (y := yX4_lampAt) (As := [.int (iv i)]) (rest := []) hC hE hP hD hS hl.1 (c_R_lampAt l ε ws hst x n G hR hN (i) ⟨by omega, by omega⟩) m_9_20 m_9_21 m_9_22 m_0_2 m_9_23 hx0 rfl hd_yX4_lampAt rfl ⟨⟨by decide, by decide⟩, by decide, by decide⟩ (Nat.le_of_ble_eq_true rfl) rfl dX4_sector_2 (fun E ce q9 ws1 H1 locs1 hq hP hD hS h1 h2 h3 => c_out hC hQ hP hD hS h1 h2 h3 (by decide) (by decide) (Or.inl hq)) (fun v ws1 H locs hq hP hD hS => ?_)
  obtain ⟨⟨al_k1, hc_k1, hr_k1, hv_⟩, hw_⟩ := hq
  rw [hw_] at hP hD
  rw [hv_]
  clear hv_ hw_
  dsimp only [Option.toList, List.cons_append, List.nil_append]
  obtain ⟨s_o2, -, ho_o2, -⟩ := hr_k1.obj
  refine lv_astore (lv' := [(4, .ref al_k1), (0, .ref x), (1, .int (iv i)), (2, .int (iv x9)), (3, .int (iv y9))]) (pc := 5) hx hb dX4_sector_5 hl (by decide) rfl (fun ls hl => ?_)
  refine lv_iload_n (pc := 7) hx hb dX4_sector_7 rfl (lv_at hl 3 rfl) ?_
  refine lv_iload_n (pc := 8) hx hb dX4_sector_8 rfl (lv_at hl 4 rfl) ?_
  refine c_callS (pc := 9) (y := yX4_requirePlace) (As := [.int (iv x9), .int (iv y9)]) (rest := []) hC hE hP hD hS hl.1 (c_R_place l ε ws hst (x9) (y9) ⟨by omega, by omega⟩ ⟨by omega, by omega⟩) m_11_12 m_11_13 m_0_2 m_11_14 hd_yX4_requirePlace rfl ⟨⟨by decide, by decide⟩, by decide, by decide⟩ (Nat.le_of_ble_eq_true rfl) rfl dX4_sector_9 (fun E ce q9 ws1 H1 locs1 hq hP hD hS h1 h2 h3 => c_out hC hQ hP hD hS h1 h2 h3 (by decide) (by decide) (Or.inr ⟨⟨by omega, fun z => hq.1 z⟩, hq.2⟩)) (fun v ws1 H locs hq hP hD hS => ?_)
  obtain ⟨hg3, hv_, hw_⟩ := hq
  rw [hw_] at hP hD
  rw [hv_]
  clear hv_ hw_
  dsimp only [Option.toList, List.cons_append, List.nil_append]
  have hlv : LV n G (i) := hL.i (by omega) (by omega)
  have hlv9 := id hlv
  obtain ⟨hlv4, hlv5, hlv6, hlv7, hlv8, hlvz, hlvf⟩ := hlv9
  refine lv_iload_n (pc := 12) hx hb dX4_sector_12 rfl (lv_at hl 3 rfl) ?_
  refine lv_aload (pc := 13) hx hb dX4_sector_13 (lv_at hl 0 rfl) ?_
  refine r_get (pc := 15) hC hK hP ho_o2 (hc := rfl) (fun w h => wt_4 w h) 0 (by decide) m_11_10 (fun _ h => h) (v := .int (iv (G 4 i.toNat))) rfl dX4_sector_15 ?_
  refine r_isub (pc := 18) (a := x9) (b := G 4 i.toNat) hx hb dX4_sector_18 ?_
  refine lv_iload_n (pc := 19) hx hb dX4_sector_19 rfl (lv_at hl 4 rfl) ?_
  refine lv_aload (pc := 20) hx hb dX4_sector_20 (lv_at hl 0 rfl) ?_
  refine r_get (pc := 22) hC hK hP ho_o2 (hc := rfl) (fun w h => wt_4 w h) 1 (by decide) m_11_11 (fun _ h => h) (v := .int (iv (G 5 i.toNat))) rfl dX4_sector_22 ?_
  refine r_isub (pc := 25) (a := y9) (b := G 5 i.toNat) hx hb dX4_sector_25 ?_
  refine c_callS (pc := 26) (y := yX1_sectorOf) (As := [.int (iv (x9 - (G 4 i.toNat))), .int (iv (y9 - (G 5 i.toNat)))]) (rest := []) hC hE hP hD hS hl.1 (c_L_sectorOf l ε ws (x9 - (G 4 i.toNat)) (y9 - (G 5 i.toNat)) ⟨by omega, by omega⟩ ⟨by omega, by omega⟩) m_11_15 m_11_16 m_4_8 m_11_17 hd_yX1_sectorOf rfl ⟨⟨by decide, by decide⟩, by decide, by decide⟩ (Nat.le_of_ble_eq_true rfl) rfl dX4_sector_26 kxN (fun v ws1 H locs hq hP hD hS => ?_)
  rw [hq.2] at hP hD
  rw [hq.1]
  dsimp only [Option.toList, List.cons_append, List.nil_append]
  refine c_iret (pc := 29) hC hQ hP hD hS (by decide) (by decide) dX4_sector_29 ?_
  exact ⟨⟨by omega, by omega⟩, rfl, rfl⟩

abbrev rm_c_R_isSeen : Room := { frames := 8, cells := 3, slots := 18, locals := 180 }
set_option maxRecDepth 100000 in
set_option maxHeartbeats 4000000 in
theorem c_R_isSeen (l : Launch) (ε : EV) (ws : va_W) (hst : l.stackTraces = false) (x : Nat) (n : Nat → Int) (G : Nat → Nat → Int) (hR : RX (IN ws) ε x n G) (hN : NB n) (hV : VPat n G) (hL : VLam n G) (i : Int) (ri : rg i) (x9 y9 : Int) (rx : rg x9) (ry : rg y9) : CT l yX4_isSeen cX4_isSeen 5 (some .boolean) rm_c_R_isSeen ε [.ref x, .int (iv i), .int (iv x9), .int (iv y9)] (ws) (fun v w => ((0 ≤ i ∧ i < n 2) ∧ (0 ≤ x9 ∧ x9 ≤ 31) ∧ 0 ≤ y9 ∧ y9 ≤ 31) ∧ v = some (.int (iv (bz (tb (SE1 G i x9 y9))))) ∧ w = ws) (fun E w => (¬ (0 ≤ i ∧ i < n 2) ∧ E = nIOE ∧ w = ws) ∨ (((0 ≤ i ∧ i < n 2) ∧ ¬ ((0 ≤ x9 ∧ x9 ≤ 31) ∧ 0 ≤ y9 ∧ y9 ≤ 31)) ∧ E = nIAE ∧ w = ws)) := by
  refine CT.intro (by decide +kernel) (Nat.le_of_ble_eq_true rfl) ?_
  intro p9 e9 s9 m9 a9 bl9 me9 c9 ls Q9 hC hE hP hD hl hQ
  have hx := hC.1
  have hb := hC.2.1
  have hK := hE.K
  have hS : WS ε s9.heap s9.heap [] := va_S.rf
  have hl : lv_has ls 5 [(0, .ref x), (1, .int (iv i)), (2, .int (iv x9)), (3, .int (iv y9))] := hl
  obtain ⟨H, hH⟩ : ∃ H, H = s9.heap := ⟨_, rfl⟩
  obtain ⟨locs, hlo⟩ : ∃ z : List Loc, z = [] := ⟨_, rfl⟩
  rw [← hH] at hP ⊢
  have hS : WS ε s9.heap H locs := by rw [hH, hlo]; exact hS
  rw [← hlo]
  clear hH hlo
  obtain ⟨dr, aP, aL, aT, aC, Dr, eP, eL, eT, eC, hx0, hxD, hlP, hlL, hlT, hlC, hpP, hpL, hpT, hpC⟩ := id hR
  have hnb := hN
  obtain ⟨mdP, edP, hoP, -⟩ := id hlP
  obtain ⟨mdL, edL, hoL, -⟩ := id hlL
  obtain ⟨mdT, edT, hoT, -⟩ := id hlT
  obtain ⟨mdC, edC, hoC, -⟩ := id hlC
  refine lv_aload_n (pc := 0) hx hb dX4_isSeen_0 rfl (lv_at hl 0 rfl) ?_
  refine lv_iload_n (pc := 1) hx hb dX4_isSeen_1 rfl (lv_at hl 1 rfl) ?_
  refine c_callV (pc := 2) (y := yX4_lampAt) (As := [.int (iv i)]) (rest := []) hC hE hP hD hS hl.1 (c_R_lampAt l ε ws hst x n G hR hN (i) ⟨by omega, by omega⟩) m_9_20 m_9_21 m_9_22 m_0_2 m_9_23 hx0 rfl hd_yX4_lampAt rfl ⟨⟨by decide, by decide⟩, by decide, by decide⟩ (Nat.le_of_ble_eq_true rfl) rfl dX4_isSeen_2 (fun E ce q9 ws1 H1 locs1 hq hP hD hS h1 h2 h3 => c_out hC hQ hP hD hS h1 h2 h3 (by decide) (by decide) (Or.inl hq)) (fun v ws1 H locs hq hP hD hS => ?_)
  obtain ⟨⟨al_k1, hc_k1, hr_k1, hv_⟩, hw_⟩ := hq
  rw [hw_] at hP hD
  rw [hv_]
  clear hv_ hw_
  dsimp only [Option.toList, List.cons_append, List.nil_append]
  obtain ⟨s_o2, -, ho_o2, -⟩ := hr_k1.obj
  refine lv_astore (lv' := [(4, .ref al_k1), (0, .ref x), (1, .int (iv i)), (2, .int (iv x9)), (3, .int (iv y9))]) (pc := 5) hx hb dX4_isSeen_5 hl (by decide) rfl (fun ls hl => ?_)
  refine lv_iload_n (pc := 7) hx hb dX4_isSeen_7 rfl (lv_at hl 3 rfl) ?_
  refine lv_iload_n (pc := 8) hx hb dX4_isSeen_8 rfl (lv_at hl 4 rfl) ?_
  refine c_callS (pc := 9) (y := yX4_requirePlace) (As := [.int (iv x9), .int (iv y9)]) (rest := []) hC hE hP hD hS hl.1 (c_R_place l ε ws hst (x9) (y9) ⟨by omega, by omega⟩ ⟨by omega, by omega⟩) m_11_12 m_11_13 m_0_2 m_11_14 hd_yX4_requirePlace rfl ⟨⟨by decide, by decide⟩, by decide, by decide⟩ (Nat.le_of_ble_eq_true rfl) rfl dX4_isSeen_9 (fun E ce q9 ws1 H1 locs1 hq hP hD hS h1 h2 h3 => c_out hC hQ hP hD hS h1 h2 h3 (by decide) (by decide) (Or.inr ⟨⟨by omega, fun z => hq.1 z⟩, hq.2⟩)) (fun v ws1 H locs hq hP hD hS => ?_)
  obtain ⟨hg3, hv_, hw_⟩ := hq
  rw [hw_] at hP hD
  rw [hv_]
  clear hv_ hw_
  dsimp only [Option.toList, List.cons_append, List.nil_append]
  refine lv_aload (pc := 12) hx hb dX4_isSeen_12 (lv_at hl 0 rfl) ?_
  refine lv_iload_n (pc := 14) hx hb dX4_isSeen_14 rfl (lv_at hl 3 rfl) ?_
  refine lv_iload_n (pc := 15) hx hb dX4_isSeen_15 rfl (lv_at hl 4 rfl) ?_
  refine c_callV (pc := 16) (y := yX1_canBeSeenFrom) (As := [.int (iv x9), .int (iv y9)]) (rest := []) hC hE hP hD hS hl.1 (c_L_seen l ε ws hr_k1 (x9) (y9) ⟨by omega, by omega⟩ ⟨by omega, by omega⟩) m_12_3 m_12_4 m_12_5 m_4_8 m_12_6 ho_o2 rfl hd_yX1_canBeSeenFrom rfl ⟨⟨by decide, by decide⟩, by decide, by decide⟩ (Nat.le_of_ble_eq_true rfl) rfl dX4_isSeen_16 kxN (fun v ws1 H locs hq hP hD hS => ?_)
  rw [hq.2] at hP hD
  rw [hq.1]
  dsimp only [Option.toList, List.cons_append, List.nil_append]
  refine c_zret (pc := 19) hC hQ hP hD hS (by decide) (by decide) dX4_isSeen_19 (nz_b _) ?_
  exact ⟨⟨by omega, by omega⟩, rfl, rfl⟩

abbrev rm_c_R_common : Room := { frames := 8, cells := 2, slots := 12, locals := 180 }
set_option maxRecDepth 100000 in
set_option maxHeartbeats 4000000 in
theorem c_R_common (l : Launch) (ε : EV) (ws : va_W) (hst : l.stackTraces = false) (x : Nat) (n : Nat → Int) (G : Nat → Nat → Int) (hR : RX (IN ws) ε x n G) (hN : NB n) (hV : VPat n G) (hL : VLam n G) (i : Int) (ri : rg i) (j : Int) (rj : rg j) : CT l yX4_common cX4_common 3 (some .int) rm_c_R_common ε [.ref x, .int (iv i), .int (iv j)] (ws) (fun v w => ((0 ≤ i ∧ i < n 2) ∧ 0 ≤ j ∧ j < n 2) ∧ v = some (.int (iv (SH1 G i j))) ∧ w = ws) (fun E w => ¬ ((0 ≤ i ∧ i < n 2) ∧ 0 ≤ j ∧ j < n 2) ∧ E = nIOE ∧ w = ws) := by
  refine CT.intro (by decide +kernel) (Nat.le_of_ble_eq_true rfl) ?_
  intro p9 e9 s9 m9 a9 bl9 me9 c9 ls Q9 hC hE hP hD hl hQ
  have hx := hC.1
  have hb := hC.2.1
  have hK := hE.K
  have hS : WS ε s9.heap s9.heap [] := va_S.rf
  have hl : lv_has ls 3 [(0, .ref x), (1, .int (iv i)), (2, .int (iv j))] := hl
  obtain ⟨H, hH⟩ : ∃ H, H = s9.heap := ⟨_, rfl⟩
  obtain ⟨locs, hlo⟩ : ∃ z : List Loc, z = [] := ⟨_, rfl⟩
  rw [← hH] at hP ⊢
  have hS : WS ε s9.heap H locs := by rw [hH, hlo]; exact hS
  rw [← hlo]
  clear hH hlo
  obtain ⟨dr, aP, aL, aT, aC, Dr, eP, eL, eT, eC, hx0, hxD, hlP, hlL, hlT, hlC, hpP, hpL, hpT, hpC⟩ := id hR
  have hnb := hN
  obtain ⟨mdP, edP, hoP, -⟩ := id hlP
  obtain ⟨mdL, edL, hoL, -⟩ := id hlL
  obtain ⟨mdT, edT, hoT, -⟩ := id hlT
  obtain ⟨mdC, edC, hoC, -⟩ := id hlC
  refine lv_aload_n (pc := 0) hx hb dX4_common_0 rfl (lv_at hl 0 rfl) ?_
  refine lv_iload_n (pc := 1) hx hb dX4_common_1 rfl (lv_at hl 1 rfl) ?_
  refine c_callV (pc := 2) (y := yX4_lampAt) (As := [.int (iv i)]) (rest := []) hC hE hP hD hS hl.1 (c_R_lampAt l ε ws hst x n G hR hN (i) ⟨by omega, by omega⟩) m_9_20 m_9_21 m_9_22 m_0_2 m_9_23 hx0 rfl hd_yX4_lampAt rfl ⟨⟨by decide, by decide⟩, by decide, by decide⟩ (Nat.le_of_ble_eq_true rfl) rfl dX4_common_2 (fun E ce q9 ws1 H1 locs1 hq hP hD hS h1 h2 h3 => c_out hC hQ hP hD hS h1 h2 h3 (by decide) (by decide) (⟨fun z => hq.1 z.1, hq.2⟩)) (fun v ws1 H locs hq hP hD hS => ?_)
  obtain ⟨⟨al_k1, hc_k1, hr_k1, hv_⟩, hw_⟩ := hq
  rw [hw_] at hP hD
  rw [hv_]
  clear hv_ hw_
  dsimp only [Option.toList, List.cons_append, List.nil_append]
  obtain ⟨s_o2, -, ho_o2, -⟩ := hr_k1.obj
  refine lv_aload_n (pc := 5) hx hb dX4_common_5 rfl (lv_at hl 0 rfl) ?_
  refine lv_iload_n (pc := 6) hx hb dX4_common_6 rfl (lv_at hl 2 rfl) ?_
  refine c_callV (pc := 7) (y := yX4_lampAt) (As := [.int (iv j)]) (rest := [.ref al_k1]) hC hE hP hD hS hl.1 (c_R_lampAt l ε ws hst x n G hR hN (j) ⟨by omega, by omega⟩) m_9_20 m_9_21 m_9_22 m_0_2 m_9_23 hx0 rfl hd_yX4_lampAt rfl ⟨⟨by decide, by decide⟩, by decide, by decide⟩ (Nat.le_of_ble_eq_true rfl) rfl dX4_common_7 (fun E ce q9 ws1 H1 locs1 hq hP hD hS h1 h2 h3 => c_out hC hQ hP hD hS h1 h2 h3 (by decide) (by decide) (⟨fun z => hq.1 z.2, hq.2⟩)) (fun v ws1 H locs hq hP hD hS => ?_)
  obtain ⟨⟨al_k3, hc_k3, hr_k3, hv_⟩, hw_⟩ := hq
  rw [hw_] at hP hD
  rw [hv_]
  clear hv_ hw_
  dsimp only [Option.toList, List.cons_append, List.nil_append]
  obtain ⟨s_o4, -, ho_o4, -⟩ := hr_k3.obj
  refine c_callV (pc := 10) (y := yX1_placesSharedWith) (As := [.ref al_k3]) (rest := []) hC hE hP hD hS hl.1 (c_L_shared l ε ws hr_k1 hr_k3) m_4_5 m_4_6 m_4_7 m_4_8 m_4_9 ho_o2 rfl hd_yX1_placesSharedWith rfl ⟨⟨by decide, by decide⟩, by decide, by decide⟩ (Nat.le_of_ble_eq_true rfl) rfl dX4_common_10 kxN (fun v ws1 H locs hq hP hD hS => ?_)
  rw [hq.2] at hP hD
  rw [hq.1]
  dsimp only [Option.toList, List.cons_append, List.nil_append]
  refine c_iret (pc := 13) hC hQ hP hD hS (by decide) (by decide) dX4_common_13 ?_
  exact ⟨by omega, rfl, rfl⟩

abbrev rm_c_R_notices : Room := { frames := 1, cells := 0, slots := 0, locals := 30 }
set_option maxRecDepth 100000 in
set_option maxHeartbeats 4000000 in
theorem c_R_notices (l : Launch) (ε : EV) (ws : va_W) (hst : l.stackTraces = false) (x : Nat) (n : Nat → Int) (G : Nat → Nat → Int) (hR : RX (IN ws) ε x n G) (hN : NB n) (hV : VPat n G) (hL : VLam n G)  : CT l yX4_notices cX4_notices 1 (some .int) rm_c_R_notices ε [.ref x] (ws) (fun v w => v = some (.int (iv (n 3))) ∧ w = ws) NX := by
  refine CT.intro (by decide +kernel) (Nat.le_of_ble_eq_true rfl) ?_
  intro p9 e9 s9 m9 a9 bl9 me9 c9 ls Q9 hC hE hP hD hl hQ
  have hx := hC.1
  have hb := hC.2.1
  have hK := hE.K
  have hS : WS ε s9.heap s9.heap [] := va_S.rf
  have hl : lv_has ls 1 [(0, .ref x)] := hl
  obtain ⟨H, hH⟩ : ∃ H, H = s9.heap := ⟨_, rfl⟩
  obtain ⟨locs, hlo⟩ : ∃ z : List Loc, z = [] := ⟨_, rfl⟩
  rw [← hH] at hP ⊢
  have hS : WS ε s9.heap H locs := by rw [hH, hlo]; exact hS
  rw [← hlo]
  clear hH hlo
  obtain ⟨dr, aP, aL, aT, aC, Dr, eP, eL, eT, eC, hx0, hxD, hlP, hlL, hlT, hlC, hpP, hpL, hpT, hpC⟩ := id hR
  have hnb := hN
  obtain ⟨mdP, edP, hoP, -⟩ := id hlP
  obtain ⟨mdL, edL, hoL, -⟩ := id hlL
  obtain ⟨mdT, edT, hoT, -⟩ := id hlT
  obtain ⟨mdC, edC, hoC, -⟩ := id hlC
  refine lv_aload_n (pc := 0) hx hb dX4_notices_0 rfl (lv_at hl 0 rfl) ?_
  refine r_get (pc := 1) hC hK hP hx0 (hc := rfl) (fun w h => wt_0 w h) 4 (by decide) m_1_2 (fun _ h => h) (v := .ref aT) rfl dX4_notices_1 ?_
  refine c_callV (pc := 4) (y := yJx4a65c_size_8abf5) (As := []) (rest := []) hC hE hP hD hS hl.1 (c_A_sizeL l ε ws hlT) m_2_3 m_2_4 m_2_5 m_0_24 m_2_6 hoT rfl hd_yJx4a65c_size_8abf5 rfl ⟨⟨by decide, by decide⟩, by decide, by decide⟩ (Nat.le_of_ble_eq_true rfl) rfl dX4_notices_4 kxN (fun v ws1 H locs hq hP hD hS => ?_)
  rw [hq.2] at hP hD
  rw [hq.1]
  dsimp only [Option.toList, List.cons_append, List.nil_append]
  refine c_iret (pc := 7) hC hQ hP hD hS (by decide) (by decide) dX4_notices_7 ?_
  exact ⟨rfl, rfl⟩

abbrev rm_c_R_clashes : Room := { frames := 5, cells := 0, slots := 0, locals := 150 }
set_option maxRecDepth 100000 in
set_option maxHeartbeats 4000000 in
theorem c_R_clashes (l : Launch) (ε : EV) (ws : va_W) (hst : l.stackTraces = false) (x : Nat) (n : Nat → Int) (G : Nat → Nat → Int) (hR : RX (IN ws) ε x n G) (hN : NB n) (hV : VPat n G) (hL : VLam n G)  : CT l yX4_clashes cX4_clashes 4 (some .int) rm_c_R_clashes ε [.ref x] (ws) (fun v w => v = some (.int (iv (CLC G (n 2).toNat (n 2).toNat))) ∧ w = ws) NX := by
  refine CT.intro (by decide +kernel) (Nat.le_of_ble_eq_true rfl) ?_
  intro p9 e9 s9 m9 a9 bl9 me9 c9 ls Q9 hC hE hP hD hl hQ
  have hx := hC.1
  have hb := hC.2.1
  have hK := hE.K
  have hS : WS ε s9.heap s9.heap [] := va_S.rf
  have hl : lv_has ls 4 [(0, .ref x)] := hl
  obtain ⟨H, hH⟩ : ∃ H, H = s9.heap := ⟨_, rfl⟩
  obtain ⟨locs, hlo⟩ : ∃ z : List Loc, z = [] := ⟨_, rfl⟩
  rw [← hH] at hP ⊢
  have hS : WS ε s9.heap H locs := by rw [hH, hlo]; exact hS
  rw [← hlo]
  clear hH hlo
  obtain ⟨dr, aP, aL, aT, aC, Dr, eP, eL, eT, eC, hx0, hxD, hlP, hlL, hlT, hlC, hpP, hpL, hpT, hpC⟩ := id hR
  have hnb := hN
  obtain ⟨mdP, edP, hoP, -⟩ := id hlP
  obtain ⟨mdL, edL, hoL, -⟩ := id hlL
  obtain ⟨mdT, edT, hoT, -⟩ := id hlT
  obtain ⟨mdC, edC, hoC, -⟩ := id hlC
  refine lv_iconst (pc := 0) (v := iv 0) hx hb dX4_clashes_0 rfl ?_
  refine lv_istore_n (lv' := [(1, .int (iv 0)), (0, .ref x)]) (pc := 1) hx hb dX4_clashes_1 rfl hl (by decide) rfl (fun ls hl => ?_)
  refine lv_iconst (pc := 2) (v := iv 0) hx hb dX4_clashes_2 rfl ?_
  refine lv_istore_n (lv' := [(2, .int (iv 0)), (1, .int (iv 0)), (0, .ref x)]) (pc := 3) hx hb dX4_clashes_3 rfl hl (by decide) rfl (fun ls hl => ?_)
  have lp_4 : ∀ (k9 : Nat) (nn : Int) (i : Int) (hi9 : 0 ≤ i ∧ i ≤ n 2) (hn : nn = CLC G (n 2).toNat i.toNat) , ((n 2 - i).toNat) < k9 → ∀ (H : Heap) (locs : List Loc) (ls : Array Slot), WP ε (ws) H → WD ε (ws) → WS ε s9.heap H locs → lv_has ls 4 [(0, .ref x), (1, .int (iv nn)), (2, .int (iv i))] → W p9 l e9 rm_c_R_clashes s9 m9 a9 bl9 me9 c9 H locs 0 0 Q9 (F0 m9 4 ls []) := by
    intro k9
    induction k9 with
    | zero => intro nn i hi9 hn h9; exact absurd h9 (Nat.not_lt_zero _)
    | succ k9 ih_4 =>
      intro nn i hi9 hn h9 H locs ls hP hD hS hl
      refine lv_iload_n (pc := 4) hx hb dX4_clashes_4 rfl (lv_at hl 2 rfl) ?_
      refine lv_aload_n (pc := 5) hx hb dX4_clashes_5 rfl (lv_at hl 0 rfl) ?_
      refine r_get (pc := 6) hC hK hP hx0 (hc := rfl) (fun w h => wt_0 w h) 3 (by decide) m_1_1 (fun _ h => h) (v := .ref aL) rfl dX4_clashes_6 ?_
      refine c_callV (pc := 9) (y := yJx4a65c_size_8abf5) (As := []) (rest := [.int (iv i)]) hC hE hP hD hS hl.1 (c_A_sizeL l ε ws hlL) m_2_3 m_2_4 m_2_5 m_0_24 m_2_6 hoL rfl hd_yJx4a65c_size_8abf5 rfl ⟨⟨by decide, by decide⟩, by decide, by decide⟩ (Nat.le_of_ble_eq_true rfl) rfl dX4_clashes_9 kxN (fun v ws1 H locs hq hP hD hS => ?_)
      rw [hq.2] at hP hD
      rw [hq.1]
      dsimp only [Option.toList, List.cons_append, List.nil_append]
      refine r_icmp_ge (pc := 12) (a := i) (b := n 2) hx hb dX4_clashes_12 (tgt := 74) (by decide) ⟨by omega, by omega⟩ ⟨by omega, by omega⟩ (fun c_12 => ?_) (fun c_12 => ?_)
      · have c_12_ := c_12
        have hres : nn = CLC G (n 2).toNat (n 2).toNat := by rw [hn, show i.toNat = (n 2).toNat by omega]
        refine lv_iload_n (pc := 74) hx hb dX4_clashes_74 rfl (lv_at hl 1 rfl) ?_
        refine c_iret (pc := 75) hC hQ hP hD hS (by decide) (by decide) dX4_clashes_75 ?_
        exact ⟨congrArg (fun z => some (Value.int (iv z))) hres, rfl⟩
      · have c_12_ := c_12
        refine lv_iload_n (pc := 15) hx hb dX4_clashes_15 rfl (lv_at hl 2 rfl) ?_
        refine lv_iconst (pc := 16) (v := iv 1) hx hb dX4_clashes_16 rfl ?_
        refine r_iadd (pc := 17) (a := i) (b := 1) hx hb dX4_clashes_17 ?_
        refine lv_istore_n (lv' := [(3, .int (iv (i + 1))), (0, .ref x), (1, .int (iv nn)), (2, .int (iv i))]) (pc := 18) hx hb dX4_clashes_18 rfl hl (by decide) rfl (fun ls hl => ?_)
        have lp_19 : ∀ (k9 : Nat) (nn : Int) (k : Int) (hk : i + 1 ≤ k ∧ k ≤ n 2) (hn2 : nn = CLC G (n 2).toNat i.toNat + CNT (CLB G i) k.toNat) , ((n 2 - k).toNat) < k9 → ∀ (H : Heap) (locs : List Loc) (ls : Array Slot), WP ε (ws) H → WD ε (ws) → WS ε s9.heap H locs → lv_has ls 4 [(0, .ref x), (1, .int (iv nn)), (2, .int (iv i)), (3, .int (iv k))] → W p9 l e9 rm_c_R_clashes s9 m9 a9 bl9 me9 c9 H locs 0 0 Q9 (F0 m9 19 ls []) := by
          intro k9
          induction k9 with
          | zero => intro nn k hk hn2 h9; exact absurd h9 (Nat.not_lt_zero _)
          | succ k9 ih_19 =>
            intro nn k hk hn2 h9 H locs ls hP hD hS hl
            refine lv_iload_n (pc := 19) hx hb dX4_clashes_19 rfl (lv_at hl 3 rfl) ?_
            refine lv_aload_n (pc := 20) hx hb dX4_clashes_20 rfl (lv_at hl 0 rfl) ?_
            refine r_get (pc := 21) hC hK hP hx0 (hc := rfl) (fun w h => wt_0 w h) 3 (by decide) m_1_1 (fun _ h => h) (v := .ref aL) rfl dX4_clashes_21 ?_
            refine c_callV (pc := 24) (y := yJx4a65c_size_8abf5) (As := []) (rest := [.int (iv k)]) hC hE hP hD hS hl.1 (c_A_sizeL l ε ws hlL) m_2_3 m_2_4 m_2_5 m_0_24 m_2_6 hoL rfl hd_yJx4a65c_size_8abf5 rfl ⟨⟨by decide, by decide⟩, by decide, by decide⟩ (Nat.le_of_ble_eq_true rfl) rfl dX4_clashes_24 kxN (fun v ws1 H locs hq hP hD hS => ?_)
            rw [hq.2] at hP hD
            rw [hq.1]
            dsimp only [Option.toList, List.cons_append, List.nil_append]
            refine r_icmp_ge (pc := 27) (a := k) (b := n 2) hx hb dX4_clashes_27 (tgt := 68) (by decide) ⟨by omega, by omega⟩ ⟨by omega, by omega⟩ (fun c_27 => ?_) (fun c_27 => ?_)
            · have c_27_ := c_27
              refine lv_iinc (v := iv (i + 1)) (lv' := [(2, .int (iv (i + 1))), (0, .ref x), (1, .int (iv nn)), (3, .int (iv k))]) (pc := 68) hx hb dX4_clashes_68 hl (k := 2) rfl (iv_add _ _) (by decide) rfl (fun ls hl => ?_)
              refine lv_goto (pc := 71) (tgt := 4) hx hb dX4_clashes_71 (by decide) ?_
              exact ih_4 nn (i + 1) (by omega) (by show _ = SUMF _ _; rw [SUMF.succ hi9.1, hn2, show k.toNat = (n 2).toNat by omega]; rfl) (by omega) _ _ _ hP hD hS (lv_sub hl [1, 2, 0] rfl)
            · have c_27_ := c_27
              refine lv_aload_n (pc := 30) hx hb dX4_clashes_30 rfl (lv_at hl 0 rfl) ?_
              refine lv_aload_n (pc := 31) hx hb dX4_clashes_31 rfl (lv_at hl 0 rfl) ?_
              refine r_get (pc := 32) hC hK hP hx0 (hc := rfl) (fun w h => wt_0 w h) 3 (by decide) m_1_1 (fun _ h => h) (v := .ref aL) rfl dX4_clashes_32 ?_
              refine lv_iload_n (pc := 35) hx hb dX4_clashes_35 rfl (lv_at hl 2 rfl) ?_
              refine c_callV (pc := 36) (y := yJx4a65c_get_915e3) (As := [.int (iv i)]) (rest := [.ref x]) hC hE hP hD hS hl.1 (c_A_getL l ε ws hlL (i) ⟨by omega, by omega⟩) m_2_13 m_2_14 m_2_15 m_0_24 m_2_16 hoL rfl hd_yJx4a65c_get_915e3 rfl ⟨⟨by decide, by decide⟩, by decide, by decide⟩ (Nat.le_of_ble_eq_true rfl) rfl dX4_clashes_36 kxN (fun v ws1 H locs hq hP hD hS => ?_)
              rw [hq.2] at hP hD
              rw [hq.1]
              dsimp only [Option.toList, List.cons_append, List.nil_append]
              have hr_h1 := hpL i (by omega) (by omega)
              obtain ⟨s_o2, -, ho_o2, -⟩ := hr_h1.obj
              refine r_cast (pc := 39) hC hK hP (ci := 2) ho_o2 rfl m_14_22 dX4_clashes_39 ?_
              refine lv_aload_n (pc := 42) hx hb dX4_clashes_42 rfl (lv_at hl 0 rfl) ?_
              refine r_get (pc := 43) hC hK hP hx0 (hc := rfl) (fun w h => wt_0 w h) 3 (by decide) m_1_1 (fun _ h => h) (v := .ref aL) rfl dX4_clashes_43 ?_
              refine lv_iload_n (pc := 46) hx hb dX4_clashes_46 rfl (lv_at hl 3 rfl) ?_
              refine c_callV (pc := 47) (y := yJx4a65c_get_915e3) (As := [.int (iv k)]) (rest := [.ref (eL i), .ref x]) hC hE hP hD hS hl.1 (c_A_getL l ε ws hlL (k) ⟨by omega, by omega⟩) m_2_13 m_2_14 m_2_15 m_0_24 m_2_16 hoL rfl hd_yJx4a65c_get_915e3 rfl ⟨⟨by decide, by decide⟩, by decide, by decide⟩ (Nat.le_of_ble_eq_true rfl) rfl dX4_clashes_47 kxN (fun v ws1 H locs hq hP hD hS => ?_)
              rw [hq.2] at hP hD
              rw [hq.1]
              dsimp only [Option.toList, List.cons_append, List.nil_append]
              have hr_h3 := hpL k (by omega) (by omega)
              obtain ⟨s_o4, -, ho_o4, -⟩ := hr_h3.obj
              refine r_cast (pc := 50) hC hK hP (ci := 2) ho_o4 rfl m_14_22 dX4_clashes_50 ?_
              refine c_callV (pc := 53) (y := yX4_clash) (As := [.ref (eL i), .ref (eL k)]) (rest := []) hC hE hP hD hS hl.1 (c_R_clash l ε ws x n G hR hN hV hL (eL i) (i) ⟨by omega, by omega⟩ hr_h1 (eL k) (k) ⟨by omega, by omega⟩ hr_h3) m_3_4 m_3_5 m_3_6 m_0_2 m_3_7 hx0 rfl hd_yX4_clash rfl ⟨⟨by decide, by decide⟩, by decide, by decide⟩ (Nat.le_of_ble_eq_true rfl) rfl dX4_clashes_53 kxN (fun v ws1 H locs hq hP hD hS => ?_)
              rw [hq.2] at hP hD
              rw [hq.1]
              dsimp only [Option.toList, List.cons_append, List.nil_append]
              refine r_if_b0 (pc := 56) (b := tb (CLA G i k)) hx hb dX4_clashes_56 (tgt := 62) (by decide)  (fun c_56 => ?_) (fun c_56 => ?_)
              · replace c_56 := tb_no c_56
                refine lv_iinc (v := iv (k + 1)) (lv' := [(3, .int (iv (k + 1))), (0, .ref x), (1, .int (iv nn)), (2, .int (iv i))]) (pc := 62) hx hb dX4_clashes_62 hl (k := 3) rfl (iv_add _ _) (by decide) rfl (fun ls hl => ?_)
                refine lv_goto (pc := 65) (tgt := 19) hx hb dX4_clashes_65 (by decide) ?_
                exact ih_19 nn (k + 1) (by omega) (by rw [CNT.succ (by omega), tb_f (show ¬ CLB G i k from fun z => c_56 z.2), hn2]; simp only [bz_t, bz_f]; omega) (by omega) _ _ _ hP hD hS (lv_sub hl [1, 2, 3, 0] rfl)
              · replace c_56 := tb_iff.mp c_56
                refine lv_iinc (v := iv (nn + 1)) (lv' := [(1, .int (iv (nn + 1))), (0, .ref x), (2, .int (iv i)), (3, .int (iv k))]) (pc := 59) hx hb dX4_clashes_59 hl (k := 1) rfl (iv_add _ _) (by decide) rfl (fun ls hl => ?_)
                refine lv_iinc (v := iv (k + 1)) (lv' := [(3, .int (iv (k + 1))), (1, .int (iv (nn + 1))), (0, .ref x), (2, .int (iv i))]) (pc := 62) hx hb dX4_clashes_62 hl (k := 3) rfl (iv_add _ _) (by decide) rfl (fun ls hl => ?_)
                refine lv_goto (pc := 65) (tgt := 19) hx hb dX4_clashes_65 (by decide) ?_
                exact ih_19 (nn + 1) (k + 1) (by omega) (by rw [CNT.succ (by omega), tb_t (show CLB G i k from ⟨by omega, c_56⟩), hn2]; simp only [bz_t, bz_f]; omega) (by omega) _ _ _ hP hD hS (lv_sub hl [2, 1, 3, 0] rfl)
        exact lp_19 _ nn (i + 1) (by omega) (by rw [hn, CNT.none (fun u a b z => by have z1 := z.1; omega)]; omega) (Nat.lt_succ_self _) _ _ _ hP hD hS (lv_sub hl [1, 2, 3, 0] rfl)
  exact lp_4 _ 0 0 (by omega) rfl (Nat.lt_succ_self _) _ _ _ hP hD hS (lv_sub hl [2, 1, 0] rfl)

abbrev rm_c_R_behind : Room := { frames := 8, cells := 1, slots := 6, locals := 180 }
set_option maxRecDepth 100000 in
set_option maxHeartbeats 4000000 in
theorem c_R_behind (l : Launch) (ε : EV) (ws : va_W) (hst : l.stackTraces = false) (x : Nat) (n : Nat → Int) (G : Nat → Nat → Int) (hR : RX (IN ws) ε x n G) (hN : NB n) (hV : VPat n G) (hL : VLam n G) (hV4 : VCha n G) (ch : Int) (rc : rg ch) : CT l yX4_behind cX4_behind 2 (some .int) rm_c_R_behind ε [.ref x, .int (iv ch)] (ws) (fun v w => (0 ≤ ch ∧ ch < n 4) ∧ v = some (.int (iv (n 3 - G 12 ch.toNat))) ∧ w = ws) (fun E w => ¬ (0 ≤ ch ∧ ch < n 4) ∧ E = nIOE ∧ w = ws) := by
  refine CT.intro (by decide +kernel) (Nat.le_of_ble_eq_true rfl) ?_
  intro p9 e9 s9 m9 a9 bl9 me9 c9 ls Q9 hC hE hP hD hl hQ
  have hx := hC.1
  have hb := hC.2.1
  have hK := hE.K
  have hS : WS ε s9.heap s9.heap [] := va_S.rf
  have hl : lv_has ls 2 [(0, .ref x), (1, .int (iv ch))] := hl
  obtain ⟨H, hH⟩ : ∃ H, H = s9.heap := ⟨_, rfl⟩
  obtain ⟨locs, hlo⟩ : ∃ z : List Loc, z = [] := ⟨_, rfl⟩
  rw [← hH] at hP ⊢
  have hS : WS ε s9.heap H locs := by rw [hH, hlo]; exact hS
  rw [← hlo]
  clear hH hlo
  obtain ⟨dr, aP, aL, aT, aC, Dr, eP, eL, eT, eC, hx0, hxD, hlP, hlL, hlT, hlC, hpP, hpL, hpT, hpC⟩ := id hR
  have hnb := hN
  obtain ⟨mdP, edP, hoP, -⟩ := id hlP
  obtain ⟨mdL, edL, hoL, -⟩ := id hlL
  obtain ⟨mdT, edT, hoT, -⟩ := id hlT
  obtain ⟨mdC, edC, hoC, -⟩ := id hlC
  refine lv_aload_n (pc := 0) hx hb dX4_behind_0 rfl (lv_at hl 0 rfl) ?_
  refine lv_aload_n (pc := 1) hx hb dX4_behind_1 rfl (lv_at hl 0 rfl) ?_
  refine lv_iload_n (pc := 2) hx hb dX4_behind_2 rfl (lv_at hl 1 rfl) ?_
  refine c_callV (pc := 3) (y := yX4_chartAt) (As := [.int (iv ch)]) (rest := [.ref x]) hC hE hP hD hS hl.1 (c_R_chartAt l ε ws hst x n G hR hN (ch) ⟨by omega, by omega⟩) m_13_19 m_13_20 m_13_21 m_0_2 m_13_22 hx0 rfl hd_yX4_chartAt rfl ⟨⟨by decide, by decide⟩, by decide, by decide⟩ (Nat.le_of_ble_eq_true rfl) rfl dX4_behind_3 (fun E ce q9 ws1 H1 locs1 hq hP hD hS h1 h2 h3 => c_out hC hQ hP hD hS h1 h2 h3 (by decide) (by decide) (hq)) (fun v ws1 H locs hq hP hD hS => ?_)
  obtain ⟨⟨al_k1, hc_k1, hr_k1, hv_⟩, hw_⟩ := hq
  rw [hw_] at hP hD
  rw [hv_]
  clear hv_ hw_
  dsimp only [Option.toList, List.cons_append, List.nil_append]
  obtain ⟨p_o2, S_o2, ho_o2, hp_o2, hs_o2⟩ := id hr_k1
  have hvc := (hV4.2 ch (by omega) (by omega)).1
  refine c_callV (pc := 6) (y := yX4_lackOf) (As := [.ref al_k1]) (rest := []) hC hE hP hD hS hl.1 (c_R_lackOf l ε ws x n G hR hN (ch) al_k1 hr_k1 ⟨by omega, by omega⟩) m_13_24 m_14_0 m_14_1 m_0_2 m_14_2 hx0 rfl hd_yX4_lackOf rfl ⟨⟨by decide, by decide⟩, by decide, by decide⟩ (Nat.le_of_ble_eq_true rfl) rfl dX4_behind_6 kxN (fun v ws1 H locs hq hP hD hS => ?_)
  rw [hq.2] at hP hD
  rw [hq.1]
  dsimp only [Option.toList, List.cons_append, List.nil_append]
  refine c_iret (pc := 9) hC hQ hP hD hS (by decide) (by decide) dX4_behind_9 ?_
  exact ⟨by omega, rfl, rfl⟩

abbrev rm_c_R_shown : Room := { frames := 8, cells := 2, slots := 12, locals := 180 }
set_option maxRecDepth 100000 in
set_option maxHeartbeats 4000000 in
theorem c_R_shown (l : Launch) (ε : EV) (ws : va_W) (hst : l.stackTraces = false) (x : Nat) (n : Nat → Int) (G : Nat → Nat → Int) (hR : RX (IN ws) ε x n G) (hN : NB n) (hV : VPat n G) (hL : VLam n G) (ch : Int) (rc : rg ch) (i : Int) (ri : rg i) : CT l yX4_shown cX4_shown 4 (some .int) rm_c_R_shown ε [.ref x, .int (iv ch), .int (iv i)] (ws) (fun v w => ((0 ≤ ch ∧ ch < n 4) ∧ 0 ≤ i ∧ i < n 2) ∧ v = some (.int (iv (G 13 (12 * ch + i).toNat))) ∧ w = ws) (fun E w => ¬ ((0 ≤ ch ∧ ch < n 4) ∧ 0 ≤ i ∧ i < n 2) ∧ E = nIOE ∧ w = ws) := by
  refine CT.intro (by decide +kernel) (Nat.le_of_ble_eq_true rfl) ?_
  intro p9 e9 s9 m9 a9 bl9 me9 c9 ls Q9 hC hE hP hD hl hQ
  have hx := hC.1
  have hb := hC.2.1
  have hK := hE.K
  have hS : WS ε s9.heap s9.heap [] := va_S.rf
  have hl : lv_has ls 4 [(0, .ref x), (1, .int (iv ch)), (2, .int (iv i))] := hl
  obtain ⟨H, hH⟩ : ∃ H, H = s9.heap := ⟨_, rfl⟩
  obtain ⟨locs, hlo⟩ : ∃ z : List Loc, z = [] := ⟨_, rfl⟩
  rw [← hH] at hP ⊢
  have hS : WS ε s9.heap H locs := by rw [hH, hlo]; exact hS
  rw [← hlo]
  clear hH hlo
  obtain ⟨dr, aP, aL, aT, aC, Dr, eP, eL, eT, eC, hx0, hxD, hlP, hlL, hlT, hlC, hpP, hpL, hpT, hpC⟩ := id hR
  have hnb := hN
  obtain ⟨mdP, edP, hoP, -⟩ := id hlP
  obtain ⟨mdL, edL, hoL, -⟩ := id hlL
  obtain ⟨mdT, edT, hoT, -⟩ := id hlT
  obtain ⟨mdC, edC, hoC, -⟩ := id hlC
  refine lv_aload_n (pc := 0) hx hb dX4_shown_0 rfl (lv_at hl 0 rfl) ?_
  refine lv_iload_n (pc := 1) hx hb dX4_shown_1 rfl (lv_at hl 1 rfl) ?_
  refine c_callV (pc := 2) (y := yX4_chartAt) (As := [.int (iv ch)]) (rest := []) hC hE hP hD hS hl.1 (c_R_chartAt l ε ws hst x n G hR hN (ch) ⟨by omega, by omega⟩) m_13_19 m_13_20 m_13_21 m_0_2 m_13_22 hx0 rfl hd_yX4_chartAt rfl ⟨⟨by decide, by decide⟩, by decide, by decide⟩ (Nat.le_of_ble_eq_true rfl) rfl dX4_shown_2 (fun E ce q9 ws1 H1 locs1 hq hP hD hS h1 h2 h3 => c_out hC hQ hP hD hS h1 h2 h3 (by decide) (by decide) (⟨fun z => hq.1 z.1, hq.2⟩)) (fun v ws1 H locs hq hP hD hS => ?_)
  obtain ⟨⟨al_k1, hc_k1, hr_k1, hv_⟩, hw_⟩ := hq
  rw [hw_] at hP hD
  rw [hv_]
  clear hv_ hw_
  dsimp only [Option.toList, List.cons_append, List.nil_append]
  obtain ⟨p_o2, S_o2, ho_o2, hp_o2, hs_o2⟩ := id hr_k1
  refine lv_astore_n (lv' := [(3, .ref al_k1), (0, .ref x), (1, .int (iv ch)), (2, .int (iv i))]) (pc := 5) hx hb dX4_shown_5 rfl hl (by decide) rfl (fun ls hl => ?_)
  refine lv_aload_n (pc := 6) hx hb dX4_shown_6 rfl (lv_at hl 1 rfl) ?_
  refine lv_iload_n (pc := 7) hx hb dX4_shown_7 rfl (lv_at hl 3 rfl) ?_
  refine c_callV (pc := 8) (y := yX4_requireLamp) (As := [.int (iv i)]) (rest := []) hC hE hP hD hS hl.1 (c_R_reqL l ε ws hst x n G hR hN (i) ⟨by omega, by omega⟩) m_9_24 m_10_0 m_10_1 m_0_2 m_10_2 hx0 rfl hd_yX4_requireLamp rfl ⟨⟨by decide, by decide⟩, by decide, by decide⟩ (Nat.le_of_ble_eq_true rfl) rfl dX4_shown_8 (fun E ce q9 ws1 H1 locs1 hq hP hD hS h1 h2 h3 => c_out hC hQ hP hD hS h1 h2 h3 (by decide) (by decide) (⟨fun z => hq.1 z.2, hq.2⟩)) (fun v ws1 H locs hq hP hD hS => ?_)
  obtain ⟨hg3, hv_, hw_⟩ := hq
  rw [hw_] at hP hD
  rw [hv_]
  clear hv_ hw_
  dsimp only [Option.toList, List.cons_append, List.nil_append]
  refine lv_aload_n (pc := 11) hx hb dX4_shown_11 rfl (lv_at hl 0 rfl) ?_
  refine lv_iload_n (pc := 12) hx hb dX4_shown_12 rfl (lv_at hl 3 rfl) ?_
  refine c_callV (pc := 13) (y := yX0_patternOf) (As := [.int (iv i)]) (rest := []) hC hE hP hD hS hl.1 (c_C_patternOf l ε ws al_k1 p_o2 _ S_o2 ho_o2 hp_o2 (i) ⟨by omega, by omega⟩) m_14_11 m_14_12 m_14_13 m_12_17 m_14_14 ho_o2 rfl hd_yX0_patternOf rfl ⟨⟨by decide, by decide⟩, by decide, by decide⟩ (Nat.le_of_ble_eq_true rfl) rfl dX4_shown_13 kxN (fun v ws1 H locs hq hP hD hS => ?_)
  rw [hs_o2 (i) (by omega) (by omega)] at hq
  rw [hq.2] at hP hD
  rw [hq.1]
  dsimp only [Option.toList, List.cons_append, List.nil_append]
  refine c_iret (pc := 16) hC hQ hP hD hS (by decide) (by decide) dX4_shown_16 ?_
  exact ⟨by omega, rfl, rfl⟩

abbrev rm_c_R_taken : Room := { frames := 8, cells := 6, slots := 36, locals := 200 }
set_option maxRecDepth 100000 in
set_option maxHeartbeats 4000000 in
theorem c_R_taken (l : Launch) (ε : EV) (ws : va_W) (hst : l.stackTraces = false) (x : Nat) (n : Nat → Int) (G : Nat → Nat → Int) (hR : RX (IN ws) ε x n G) (hN : NB n) (hV : VPat n G) (hL : VLam n G) (hV4 : VCha n G) (ch x9 y9 i fr many : Int) (rc : rg ch) (rx : rg x9) (ry : rg y9) (ri : rg i) (rf : rg fr) (rm9 : rg many) : CT l yX4_taken cX4_taken 14 (some .int) rm_c_R_taken ε [.ref x, .int (iv ch), .int (iv x9), .int (iv y9), .int (iv i), .int (iv fr), .int (iv many)] (ws) (fun v w => (((0 ≤ ch ∧ ch < n 4) ∧ 0 ≤ i ∧ i < n 2) ∧ (((0 ≤ x9 ∧ x9 ≤ 31) ∧ 0 ≤ y9 ∧ y9 ≤ 31) ∧ (0 ≤ fr ∧ fr ≤ 1000) ∧ 1 ≤ many ∧ many ≤ 60)) ∧ v = some (.int (iv (TK (CAN2 G ch x9 y9 i fr many) (n 2).toNat))) ∧ w = ws) (fun E w => (¬ ((0 ≤ ch ∧ ch < n 4) ∧ 0 ≤ i ∧ i < n 2) ∧ E = nIOE ∧ w = ws) ∨ ((((0 ≤ ch ∧ ch < n 4) ∧ 0 ≤ i ∧ i < n 2) ∧ ¬ (((0 ≤ x9 ∧ x9 ≤ 31) ∧ 0 ≤ y9 ∧ y9 ≤ 31) ∧ (0 ≤ fr ∧ fr ≤ 1000) ∧ 1 ≤ many ∧ many ≤ 60)) ∧ E = nIAE ∧ w = ws)) := by
  refine CT.intro (by decide +kernel) (Nat.le_of_ble_eq_true rfl) ?_
  intro p9 e9 s9 m9 a9 bl9 me9 c9 ls Q9 hC hE hP hD hl hQ
  have hx := hC.1
  have hb := hC.2.1
  have hK := hE.K
  have hS : WS ε s9.heap s9.heap [] := va_S.rf
  have hl : lv_has ls 14 [(0, .ref x), (1, .int (iv ch)), (2, .int (iv x9)), (3, .int (iv y9)), (4, .int (iv i)), (5, .int (iv fr)), (6, .int (iv many))] := hl
  obtain ⟨H, hH⟩ : ∃ H, H = s9.heap := ⟨_, rfl⟩
  obtain ⟨locs, hlo⟩ : ∃ z : List Loc, z = [] := ⟨_, rfl⟩
  rw [← hH] at hP ⊢
  have hS : WS ε s9.heap H locs := by rw [hH, hlo]; exact hS
  rw [← hlo]
  clear hH hlo
  obtain ⟨dr, aP, aL, aT, aC, Dr, eP, eL, eT, eC, hx0, hxD, hlP, hlL, hlT, hlC, hpP, hpL, hpT, hpC⟩ := id hR
  have hnb := hN
  obtain ⟨mdP, edP, hoP, -⟩ := id hlP
  obtain ⟨mdL, edL, hoL, -⟩ := id hlL
  obtain ⟨mdT, edT, hoT, -⟩ := id hlT
  obtain ⟨mdC, edC, hoC, -⟩ := id hlC
  refine lv_aload_n (pc := 0) hx hb dX4_taken_0 rfl (lv_at hl 0 rfl) ?_
  refine lv_iload_n (pc := 1) hx hb dX4_taken_1 rfl (lv_at hl 1 rfl) ?_
  refine c_callV (pc := 2) (y := yX4_chartAt) (As := [.int (iv ch)]) (rest := []) hC hE hP hD hS hl.1 (c_R_chartAt l ε ws hst x n G hR hN (ch) ⟨by omega, by omega⟩) m_13_19 m_13_20 m_13_21 m_0_2 m_13_22 hx0 rfl hd_yX4_chartAt rfl ⟨⟨by decide, by decide⟩, by decide, by decide⟩ (Nat.le_of_ble_eq_true rfl) rfl dX4_taken_2 (fun E ce q9 ws1 H1 locs1 hq hP hD hS h1 h2 h3 => c_out hC hQ hP hD hS h1 h2 h3 (by decide) (by decide) (Or.inl ⟨fun z => hq.1 z.1, hq.2⟩)) (fun v ws1 H locs hq hP hD hS => ?_)
  obtain ⟨⟨al_k1, hc_k1, hr_k1, hv_⟩, hw_⟩ := hq
  rw [hw_] at hP hD
  rw [hv_]
  clear hv_ hw_
  dsimp only [Option.toList, List.cons_append, List.nil_append]
  obtain ⟨p_o2, S_o2, ho_o2, hp_o2, hs_o2⟩ := id hr_k1
  refine lv_astore (lv' := [(7, .ref al_k1), (0, .ref x), (1, .int (iv ch)), (2, .int (iv x9)), (3, .int (iv y9)), (4, .int (iv i)), (5, .int (iv fr)), (6, .int (iv many))]) (pc := 5) hx hb dX4_taken_5 hl (by decide) rfl (fun ls hl => ?_)
  refine lv_aload_n (pc := 7) hx hb dX4_taken_7 rfl (lv_at hl 1 rfl) ?_
  refine lv_iload (pc := 8) hx hb dX4_taken_8 (lv_at hl 5 rfl) ?_
  refine c_callV (pc := 10) (y := yX4_lampAt) (As := [.int (iv i)]) (rest := []) hC hE hP hD hS hl.1 (c_R_lampAt l ε ws hst x n G hR hN (i) ⟨by omega, by omega⟩) m_9_20 m_9_21 m_9_22 m_0_2 m_9_23 hx0 rfl hd_yX4_lampAt rfl ⟨⟨by decide, by decide⟩, by decide, by decide⟩ (Nat.le_of_ble_eq_true rfl) rfl dX4_taken_10 (fun E ce q9 ws1 H1 locs1 hq hP hD hS h1 h2 h3 => c_out hC hQ hP hD hS h1 h2 h3 (by decide) (by decide) (Or.inl ⟨fun z => hq.1 z.2, hq.2⟩)) (fun v ws1 H locs hq hP hD hS => ?_)
  obtain ⟨⟨al_k3, hc_k3, hr_k3, hv_⟩, hw_⟩ := hq
  rw [hw_] at hP hD
  rw [hv_]
  clear hv_ hw_
  dsimp only [Option.toList, List.cons_append, List.nil_append]
  obtain ⟨s_o4, -, ho_o4, -⟩ := hr_k3.obj
  refine lv_astore (lv' := [(8, .ref al_k3), (7, .ref al_k1), (0, .ref x), (1, .int (iv ch)), (2, .int (iv x9)), (3, .int (iv y9)), (4, .int (iv i)), (5, .int (iv fr)), (6, .int (iv many))]) (pc := 13) hx hb dX4_taken_13 hl (by decide) rfl (fun ls hl => ?_)
  refine lv_iload_n (pc := 15) hx hb dX4_taken_15 rfl (lv_at hl 4 rfl) ?_
  refine lv_iload_n (pc := 16) hx hb dX4_taken_16 rfl (lv_at hl 5 rfl) ?_
  refine c_callS (pc := 17) (y := yX4_requirePlace) (As := [.int (iv x9), .int (iv y9)]) (rest := []) hC hE hP hD hS hl.1 (c_R_place l ε ws hst (x9) (y9) ⟨by omega, by omega⟩ ⟨by omega, by omega⟩) m_11_12 m_11_13 m_0_2 m_11_14 hd_yX4_requirePlace rfl ⟨⟨by decide, by decide⟩, by decide, by decide⟩ (Nat.le_of_ble_eq_true rfl) rfl dX4_taken_17 (fun E ce q9 ws1 H1 locs1 hq hP hD hS h1 h2 h3 => c_out hC hQ hP hD hS h1 h2 h3 (by decide) (by decide) (Or.inr ⟨⟨by omega, fun z => hq.1 z.1⟩, hq.2⟩)) (fun v ws1 H locs hq hP hD hS => ?_)
  obtain ⟨hg5, hv_, hw_⟩ := hq
  rw [hw_] at hP hD
  rw [hv_]
  clear hv_ hw_
  dsimp only [Option.toList, List.cons_append, List.nil_append]
  refine lv_iload (pc := 20) hx hb dX4_taken_20 (lv_at hl 7 rfl) ?_
  refine lv_iconst (pc := 22) (v := iv 0) hx hb dX4_taken_22 rfl ?_
  refine lv_sipush (pc := 23) (v := iv 1000) hx hb dX4_taken_23 (by decide) ?_
  refine c_callS (pc := 26) (y := yX4_requireWithin) (As := [.int (iv fr), .int (iv 0), .int (iv 1000)]) (rest := []) hC hE hP hD hS hl.1 (c_R_within l ε ws hst (fr) (0) (1000) ⟨by omega, by omega⟩ ⟨by omega, by omega⟩ ⟨by omega, by omega⟩) m_5_5 m_5_6 m_0_2 m_5_7 hd_yX4_requireWithin rfl ⟨⟨by decide, by decide⟩, by decide, by decide⟩ (Nat.le_of_ble_eq_true rfl) rfl dX4_taken_26 (fun E ce q9 ws1 H1 locs1 hq hP hD hS h1 h2 h3 => c_out hC hQ hP hD hS h1 h2 h3 (by decide) (by decide) (Or.inr ⟨⟨by omega, fun z => hq.1 z.2.1⟩, hq.2⟩)) (fun v ws1 H locs hq hP hD hS => ?_)
  obtain ⟨hg6, hv_, hw_⟩ := hq
  rw [hw_] at hP hD
  rw [hv_]
  clear hv_ hw_
  dsimp only [Option.toList, List.cons_append, List.nil_append]
  refine lv_iload (pc := 29) hx hb dX4_taken_29 (lv_at hl 8 rfl) ?_
  refine lv_iconst (pc := 31) (v := iv 1) hx hb dX4_taken_31 rfl ?_
  refine lv_bipush (pc := 32) (v := iv 60) hx hb dX4_taken_32 (by decide) ?_
  refine c_callS (pc := 34) (y := yX4_requireWithin) (As := [.int (iv many), .int (iv 1), .int (iv 60)]) (rest := []) hC hE hP hD hS hl.1 (c_R_within l ε ws hst (many) (1) (60) ⟨by omega, by omega⟩ ⟨by omega, by omega⟩ ⟨by omega, by omega⟩) m_5_5 m_5_6 m_0_2 m_5_7 hd_yX4_requireWithin rfl ⟨⟨by decide, by decide⟩, by decide, by decide⟩ (Nat.le_of_ble_eq_true rfl) rfl dX4_taken_34 (fun E ce q9 ws1 H1 locs1 hq hP hD hS h1 h2 h3 => c_out hC hQ hP hD hS h1 h2 h3 (by decide) (by decide) (Or.inr ⟨⟨by omega, fun z => hq.1 z.2.2⟩, hq.2⟩)) (fun v ws1 H locs hq hP hD hS => ?_)
  obtain ⟨hg7, hv_, hw_⟩ := hq
  rw [hw_] at hP hD
  rw [hv_]
  clear hv_ hw_
  dsimp only [Option.toList, List.cons_append, List.nil_append]
  refine lv_aload_n (pc := 37) hx hb dX4_taken_37 rfl (lv_at hl 2 rfl) ?_
  refine lv_aload (pc := 38) hx hb dX4_taken_38 (lv_at hl 0 rfl) ?_
  refine lv_iload (pc := 40) hx hb dX4_taken_40 (lv_at hl 7 rfl) ?_
  refine lv_iload (pc := 42) hx hb dX4_taken_42 (lv_at hl 8 rfl) ?_
  refine c_callV (pc := 44) (y := yX4_lookAt) (As := [.ref al_k3, .int (iv fr), .int (iv many)]) (rest := []) hC hE hP hD hS hl.1 (c_R_lookAt l ε ws x n G hR hN hV hL al_k3 (i) ⟨by omega, by omega⟩ hr_k3 (fr) (many) ⟨by omega, by omega⟩ ⟨by omega, by omega⟩) m_15_19 m_15_20 m_15_21 m_0_2 m_15_22 hx0 rfl hd_yX4_lookAt rfl ⟨⟨by decide, by decide⟩, by decide, by decide⟩ (Nat.le_of_ble_eq_true rfl) rfl dX4_taken_44 kxN (fun v ws1 H locs hq hP hD hS => ?_)
  rw [hq.2] at hP hD
  rw [hq.1]
  dsimp only [Option.toList, List.cons_append, List.nil_append]
  refine lv_lstore (lv' := [(9, .long (jv (BW (LK1 G i fr) many.toNat))), (8, .ref al_k3), (7, .ref al_k1), (0, .ref x), (1, .int (iv ch)), (2, .int (iv x9)), (3, .int (iv y9)), (4, .int (iv i)), (5, .int (iv fr)), (6, .int (iv many))]) (pc := 47) hx hb dX4_taken_47 hl (by decide) rfl (fun ls hl => ?_)
  have hcb := (hV4.2 ch (by omega) (by omega)).2
  have hlb : 0 ≤ BW (LK1 G i fr) many.toNat ∧ BW (LK1 G i fr) many.toNat < 2 ^ 62 := ⟨(BW.bd _ _).1, Int.lt_of_lt_of_le (BW.bd _ _).2 (pw_mono (by omega))⟩
  refine lv_iconst (pc := 49) (v := iv (-1)) hx hb dX4_taken_49 rfl ?_
  refine lv_istore (lv' := [(11, .int (iv ((-1)))), (9, .long (jv (BW (LK1 G i fr) many.toNat))), (8, .ref al_k3), (7, .ref al_k1), (0, .ref x), (1, .int (iv ch)), (2, .int (iv x9)), (3, .int (iv y9)), (4, .int (iv i)), (5, .int (iv fr)), (6, .int (iv many))]) (pc := 50) hx hb dX4_taken_50 hl (by decide) rfl (fun ls hl => ?_)
  refine lv_iconst (pc := 52) (v := iv 0) hx hb dX4_taken_52 rfl ?_
  refine lv_istore (lv' := [(12, .int (iv 0)), (11, .int (iv ((-1)))), (9, .long (jv (BW (LK1 G i fr) many.toNat))), (8, .ref al_k3), (7, .ref al_k1), (0, .ref x), (1, .int (iv ch)), (2, .int (iv x9)), (3, .int (iv y9)), (4, .int (iv i)), (5, .int (iv fr)), (6, .int (iv many))]) (pc := 53) hx hb dX4_taken_53 hl (by decide) rfl (fun ls hl => ?_)
  have lp_55 : ∀ (k9 : Nat) (fd : Int) (k : Int) (hk : 0 ≤ k ∧ k ≤ n 2) (hf9 : fd = TK (CAN2 G ch x9 y9 i fr many) k.toNat) , ((n 2 - k).toNat) < k9 → ∀ (H : Heap) (locs : List Loc) (ls : Array Slot), WP ε (ws) H → WD ε (ws) → WS ε s9.heap H locs → lv_has ls 14 [(0, .ref x), (2, .int (iv x9)), (3, .int (iv y9)), (6, .int (iv many)), (7, .ref al_k1), (9, .long (jv (BW (LK1 G i fr) many.toNat))), (11, .int (iv fd)), (12, .int (iv k))] → W p9 l e9 rm_c_R_taken s9 m9 a9 bl9 me9 c9 H locs 6 36 Q9 (F0 m9 55 ls []) := by
    intro k9
    induction k9 with
    | zero => intro fd k hk hf9 h9; exact absurd h9 (Nat.not_lt_zero _)
    | succ k9 ih_55 =>
      intro fd k hk hf9 h9 H locs ls hP hD hS hl
      have htk0 := TK.bd (CAN2 G ch x9 y9 i fr many) k.toNat
      refine lv_iload (pc := 55) hx hb dX4_taken_55 (lv_at hl 7 rfl) ?_
      refine lv_aload_n (pc := 57) hx hb dX4_taken_57 rfl (lv_at hl 0 rfl) ?_
      refine r_get (pc := 58) hC hK hP hx0 (hc := rfl) (fun w h => wt_0 w h) 3 (by decide) m_1_1 (fun _ h => h) (v := .ref aL) rfl dX4_taken_58 ?_
      refine c_callV (pc := 61) (y := yJx4a65c_size_8abf5) (As := []) (rest := [.int (iv k)]) hC hE hP hD hS hl.1 (c_A_sizeL l ε ws hlL) m_2_3 m_2_4 m_2_5 m_0_24 m_2_6 hoL rfl hd_yJx4a65c_size_8abf5 rfl ⟨⟨by decide, by decide⟩, by decide, by decide⟩ (Nat.le_of_ble_eq_true rfl) rfl dX4_taken_61 kxN (fun v ws1 H locs hq hP hD hS => ?_)
      rw [hq.2] at hP hD
      rw [hq.1]
      dsimp only [Option.toList, List.cons_append, List.nil_append]
      refine r_icmp_ge (pc := 64) (a := k) (b := n 2) hx hb dX4_taken_64 (tgt := 137) (by decide) ⟨by omega, by omega⟩ ⟨by omega, by omega⟩ (fun c_64 => ?_) (fun c_64 => ?_)
      · have c_64_ := c_64
        have hres : fd = TK (CAN2 G ch x9 y9 i fr many) (n 2).toNat := by rw [hf9, show k.toNat = (n 2).toNat by omega]
        refine lv_iload (pc := 137) hx hb dX4_taken_137 (lv_at hl 6 rfl) ?_
        refine c_iret (pc := 139) hC hQ hP hD hS (by decide) (by decide) dX4_taken_139 ?_
        exact ⟨by omega, congrArg (fun z => some (Value.int (iv z))) hres, rfl⟩
      · have c_64_ := c_64
        have hck := hcb k (by omega) (by omega)
        refine lv_aload (pc := 67) hx hb dX4_taken_67 (lv_at hl 4 rfl) ?_
        refine lv_iload (pc := 69) hx hb dX4_taken_69 (lv_at hl 7 rfl) ?_
        refine c_callV (pc := 71) (y := yX0_patternOf) (As := [.int (iv k)]) (rest := []) hC hE hP hD hS hl.1 (c_C_patternOf l ε ws al_k1 p_o2 _ S_o2 ho_o2 hp_o2 (k) ⟨by omega, by omega⟩) m_14_11 m_14_12 m_14_13 m_12_17 m_14_14 ho_o2 rfl hd_yX0_patternOf rfl ⟨⟨by decide, by decide⟩, by decide, by decide⟩ (Nat.le_of_ble_eq_true rfl) rfl dX4_taken_71 kxN (fun v ws1 H locs hq hP hD hS => ?_)
        rw [hs_o2 (k) (by omega) (by omega)] at hq
        rw [hq.2] at hP hD
        rw [hq.1]
        dsimp only [Option.toList, List.cons_append, List.nil_append]
        refine lv_istore (lv' := [(13, .int (iv (G 13 (12 * ch + k).toNat))), (0, .ref x), (2, .int (iv x9)), (3, .int (iv y9)), (6, .int (iv many)), (7, .ref al_k1), (9, .long (jv (BW (LK1 G i fr) many.toNat))), (11, .int (iv fd)), (12, .int (iv k))]) (pc := 74) hx hb dX4_taken_74 hl (by decide) rfl (fun ls hl => ?_)
        refine lv_iload (pc := 76) hx hb dX4_taken_76 (lv_at hl 0 rfl) ?_
        refine lv_iconst (pc := 78) (v := iv (-1)) hx hb dX4_taken_78 rfl ?_
        refine r_icmp_eq (pc := 79) (a := G 13 (12 * ch + k).toNat) (b := (-1)) hx hb dX4_taken_79 (tgt := 131) (by decide) ⟨by omega, by omega⟩ ⟨by omega, by omega⟩ (fun c_79 => ?_) (fun c_79 => ?_)
        · have c_79_ := c_79
          refine lv_iinc (v := iv (k + 1)) (lv' := [(12, .int (iv (k + 1))), (13, .int (iv (G 13 (12 * ch + k).toNat))), (0, .ref x), (2, .int (iv x9)), (3, .int (iv y9)), (6, .int (iv many)), (7, .ref al_k1), (9, .long (jv (BW (LK1 G i fr) many.toNat))), (11, .int (iv fd))]) (pc := 131) hx hb dX4_taken_131 hl (k := 8) rfl (iv_add _ _) (by decide) rfl (fun ls hl => ?_)
          refine lv_goto (pc := 134) (tgt := 55) hx hb dX4_taken_134 (by decide) ?_
          exact ih_55 fd (k + 1) (by omega) (by rw [TK.succ hk.1, tb_f (show ¬ (CAN2 G ch x9 y9 i fr many) k from fun z => absurd (by omega) z.1.1), hf9]; rfl) (by omega) _ _ _ hP hD hS (lv_sub hl [2, 3, 4, 5, 6, 7, 8, 0] rfl)
        · have c_79_ := c_79
          refine lv_aload_n (pc := 82) hx hb dX4_taken_82 rfl (lv_at hl 1 rfl) ?_
          refine r_get (pc := 83) hC hK hP hx0 (hc := rfl) (fun w h => wt_0 w h) 3 (by decide) m_1_1 (fun _ h => h) (v := .ref aL) rfl dX4_taken_83 ?_
          refine lv_iload (pc := 86) hx hb dX4_taken_86 (lv_at hl 8 rfl) ?_
          refine c_callV (pc := 88) (y := yJx4a65c_get_915e3) (As := [.int (iv k)]) (rest := []) hC hE hP hD hS hl.1 (c_A_getL l ε ws hlL (k) ⟨by omega, by omega⟩) m_2_13 m_2_14 m_2_15 m_0_24 m_2_16 hoL rfl hd_yJx4a65c_get_915e3 rfl ⟨⟨by decide, by decide⟩, by decide, by decide⟩ (Nat.le_of_ble_eq_true rfl) rfl dX4_taken_88 kxN (fun v ws1 H locs hq hP hD hS => ?_)
          rw [hq.2] at hP hD
          rw [hq.1]
          dsimp only [Option.toList, List.cons_append, List.nil_append]
          have hr_h8 := hpL k (by omega) (by omega)
          obtain ⟨s_o9, -, ho_o9, -⟩ := hr_h8.obj
          refine r_cast (pc := 91) hC hK hP (ci := 2) ho_o9 rfl m_14_22 dX4_taken_91 ?_
          refine lv_iload_n (pc := 94) hx hb dX4_taken_94 rfl (lv_at hl 2 rfl) ?_
          refine lv_iload_n (pc := 95) hx hb dX4_taken_95 rfl (lv_at hl 3 rfl) ?_
          refine c_callV (pc := 96) (y := yX1_canBeSeenFrom) (As := [.int (iv x9), .int (iv y9)]) (rest := []) hC hE hP hD hS hl.1 (c_L_seen l ε ws hr_h8 (x9) (y9) ⟨by omega, by omega⟩ ⟨by omega, by omega⟩) m_12_3 m_12_4 m_12_5 m_4_8 m_12_6 ho_o9 rfl hd_yX1_canBeSeenFrom rfl ⟨⟨by decide, by decide⟩, by decide, by decide⟩ (Nat.le_of_ble_eq_true rfl) rfl dX4_taken_96 kxN (fun v ws1 H locs hq hP hD hS => ?_)
          rw [hq.2] at hP hD
          rw [hq.1]
          dsimp only [Option.toList, List.cons_append, List.nil_append]
          refine r_if_b0 (pc := 99) (b := tb (SE1 G k x9 y9)) hx hb dX4_taken_99 (tgt := 131) (by decide)  (fun c_99 => ?_) (fun c_99 => ?_)
          · replace c_99 := tb_no c_99
            refine lv_iinc (v := iv (k + 1)) (lv' := [(12, .int (iv (k + 1))), (13, .int (iv (G 13 (12 * ch + k).toNat))), (0, .ref x), (2, .int (iv x9)), (3, .int (iv y9)), (6, .int (iv many)), (7, .ref al_k1), (9, .long (jv (BW (LK1 G i fr) many.toNat))), (11, .int (iv fd))]) (pc := 131) hx hb dX4_taken_131 hl (k := 8) rfl (iv_add _ _) (by decide) rfl (fun ls hl => ?_)
            refine lv_goto (pc := 134) (tgt := 55) hx hb dX4_taken_134 (by decide) ?_
            exact ih_55 fd (k + 1) (by omega) (by rw [TK.succ hk.1, tb_f (show ¬ (CAN2 G ch x9 y9 i fr many) k from fun z => c_99 z.1.2), hf9]; rfl) (by omega) _ _ _ hP hD hS (lv_sub hl [2, 3, 4, 5, 6, 7, 8, 0] rfl)
          · replace c_99 := tb_iff.mp c_99
            refine lv_aload_n (pc := 102) hx hb dX4_taken_102 rfl (lv_at hl 1 rfl) ?_
            refine lv_iload (pc := 103) hx hb dX4_taken_103 (lv_at hl 0 rfl) ?_
            refine c_callV (pc := 105) (y := yX4_patternAt) (As := [.int (iv (G 13 (12 * ch + k).toNat))]) (rest := []) hC hE hP hD hS hl.1 (c_R_patternAtN l ε ws x n G hR hN (G 13 (12 * ch + k).toNat) ⟨by omega, by omega⟩) m_3_9 m_3_10 m_3_11 m_0_2 m_3_12 hx0 rfl hd_yX4_patternAt rfl ⟨⟨by decide, by decide⟩, by decide, by decide⟩ (Nat.le_of_ble_eq_true rfl) rfl dX4_taken_105 kxN (fun v ws1 H locs hq hP hD hS => ?_)
            obtain ⟨⟨al_k10, hc_k10, hr_k10, hv_⟩, hw_⟩ := hq
            rw [hw_] at hP hD
            rw [hv_]
            clear hv_ hw_
            dsimp only [Option.toList, List.cons_append, List.nil_append]
            obtain ⟨p_o11, l_o11, y_o11, -, -, ho_o11, -⟩ := id hr_k10
            refine lv_lload (pc := 108) hx hb dX4_taken_108 (lv_at hl 6 rfl) ?_
            refine lv_iload (pc := 110) hx hb dX4_taken_110 (lv_at hl 4 rfl) ?_
            refine c_callV (pc := 112) (y := yX3_canLookLike) (As := [.long (jv (BW (LK1 G i fr) many.toNat)), .int (iv many)]) (rest := []) hC hE hP hD hS hl.1 (c_P_looks l ε ws hr_k10 (hV.q (q := G 13 (12 * ch + k).toNat) (by omega) (by omega)) (BW (LK1 G i fr) many.toNat) hlb many ⟨by omega, by omega⟩) m_15_23 m_15_24 m_16_0 m_3_23 m_16_1 ho_o11 rfl hd_yX3_canLookLike rfl ⟨⟨by decide, by decide⟩, by decide, by decide⟩ (Nat.le_of_ble_eq_true rfl) rfl dX4_taken_112 kxN (fun v ws1 H locs hq hP hD hS => ?_)
            rw [hq.2] at hP hD
            rw [hq.1]
            dsimp only [Option.toList, List.cons_append, List.nil_append]
            refine r_if_b0 (pc := 115) (b := tb (EXb (fun t => LOOK (LQ G (G 13 (12 * ch + k).toNat)) (BW (LK1 G i fr) many.toNat) many t) (G 3 (G 13 (12 * ch + k).toNat).toNat))) hx hb dX4_taken_115 (tgt := 131) (by decide)  (fun c_115 => ?_) (fun c_115 => ?_)
            · replace c_115 := tb_no c_115
              refine lv_iinc (v := iv (k + 1)) (lv' := [(12, .int (iv (k + 1))), (13, .int (iv (G 13 (12 * ch + k).toNat))), (0, .ref x), (2, .int (iv x9)), (3, .int (iv y9)), (6, .int (iv many)), (7, .ref al_k1), (9, .long (jv (BW (LK1 G i fr) many.toNat))), (11, .int (iv fd))]) (pc := 131) hx hb dX4_taken_131 hl (k := 8) rfl (iv_add _ _) (by decide) rfl (fun ls hl => ?_)
              refine lv_goto (pc := 134) (tgt := 55) hx hb dX4_taken_134 (by decide) ?_
              exact ih_55 fd (k + 1) (by omega) (by rw [TK.succ hk.1, tb_f (show ¬ (CAN2 G ch x9 y9 i fr many) k from fun z => c_115 z.2), hf9]; rfl) (by omega) _ _ _ hP hD hS (lv_sub hl [2, 3, 4, 5, 6, 7, 8, 0] rfl)
            · replace c_115 := tb_iff.mp c_115
              refine lv_iload (pc := 118) hx hb dX4_taken_118 (lv_at hl 7 rfl) ?_
              refine lv_iconst (pc := 120) (v := iv (-1)) hx hb dX4_taken_120 rfl ?_
              have htk := TK.bd (CAN2 G ch x9 y9 i fr many) k.toNat
              refine r_icmp_eq (pc := 121) (a := fd) (b := (-1)) hx hb dX4_taken_121 (tgt := 127) (by decide) ⟨by omega, by omega⟩ ⟨by omega, by omega⟩ (fun c_121 => ?_) (fun c_121 => ?_)
              · have c_121_ := c_121
                refine lv_iload (pc := 127) hx hb dX4_taken_127 (lv_at hl 8 rfl) ?_
                refine lv_istore (lv' := [(11, .int (iv k)), (13, .int (iv (G 13 (12 * ch + k).toNat))), (0, .ref x), (2, .int (iv x9)), (3, .int (iv y9)), (6, .int (iv many)), (7, .ref al_k1), (9, .long (jv (BW (LK1 G i fr) many.toNat))), (12, .int (iv k))]) (pc := 129) hx hb dX4_taken_129 hl (by decide) rfl (fun ls hl => ?_)
                refine lv_iinc (v := iv (k + 1)) (lv' := [(12, .int (iv (k + 1))), (11, .int (iv k)), (13, .int (iv (G 13 (12 * ch + k).toNat))), (0, .ref x), (2, .int (iv x9)), (3, .int (iv y9)), (6, .int (iv many)), (7, .ref al_k1), (9, .long (jv (BW (LK1 G i fr) many.toNat)))]) (pc := 131) hx hb dX4_taken_131 hl (k := 8) rfl (iv_add _ _) (by decide) rfl (fun ls hl => ?_)
                refine lv_goto (pc := 134) (tgt := 55) hx hb dX4_taken_134 (by decide) ?_
                exact ih_55 k (k + 1) (by omega) (by rw [TK.succ hk.1, tb_t (show (CAN2 G ch x9 y9 i fr many) k from ⟨⟨by omega, c_99⟩, c_115⟩), if_pos rfl, if_pos (by rw [← hf9]; omega)]) (by omega) _ _ _ hP hD hS (lv_sub hl [3, 4, 5, 6, 7, 8, 1, 0] rfl)
              · have c_121_ := c_121
                have hres : -2 = TK (CAN2 G ch x9 y9 i fr many) (n 2).toNat := (TK.stay hk.1 (by rw [← hf9]; omega) (show (CAN2 G ch x9 y9 i fr many) k from ⟨⟨by omega, c_99⟩, c_115⟩) (by omega)).symm
                refine lv_bipush (pc := 124) (v := iv (-2)) hx hb dX4_taken_124 (by decide) ?_
                refine c_iret (pc := 126) hC hQ hP hD hS (by decide) (by decide) dX4_taken_126 ?_
                exact ⟨by omega, congrArg (fun z => some (Value.int (iv z))) hres, rfl⟩
  exact lp_55 _ ((-1)) 0 (by omega) rfl (Nat.lt_succ_self _) _ _ _ hP hD hS (lv_sub hl [5, 7, 8, 11, 4, 2, 1, 0] rfl)
