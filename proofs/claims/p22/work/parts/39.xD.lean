abbrev rm_c_R_within : Room := { frames := 6, cells := 1, slots := 6, locals := 90 }
set_option maxRecDepth 100000 in
set_option maxHeartbeats 4000000 in
theorem c_R_within (l : Launch) (ε : EV) (ws : va_W) (hst : l.stackTraces = false) (a b c : Int) (ra : rg a) (rb : rg b) (rc : rg c) : CT l yX4_requireWithin cX4_requireWithin 3 none rm_c_R_within ε [.int (iv a), .int (iv b), .int (iv c)] (ws) (fun v w => (b ≤ a ∧ a ≤ c) ∧ v = none ∧ w = ws) (fun E w => ¬ (b ≤ a ∧ a ≤ c) ∧ E = nIAE ∧ w = ws) := by
  refine CT.intro (by decide +kernel) (Nat.le_of_ble_eq_true rfl) ?_
  intro p9 e9 s9 m9 a9 bl9 me9 c9 ls Q9 hC hE hP hD hl hQ
  have hx := hC.1
  have hb := hC.2.1
  have hK := hE.K
  have hS : WS ε s9.heap s9.heap [] := va_S.rf
  have hl : lv_has ls 3 [(0, .int (iv a)), (1, .int (iv b)), (2, .int (iv c))] := hl
  obtain ⟨H, hH⟩ : ∃ H, H = s9.heap := ⟨_, rfl⟩
  obtain ⟨locs, hlo⟩ : ∃ z : List Loc, z = [] := ⟨_, rfl⟩
  rw [← hH] at hP ⊢
  have hS : WS ε s9.heap H locs := by rw [hH, hlo]; exact hS
  rw [← hlo]
  clear hH hlo
  refine lv_iload_n (pc := 0) hx hb dX4_requireWithin_0 rfl (lv_at hl 0 rfl) ?_
  refine lv_iload_n (pc := 1) hx hb dX4_requireWithin_1 rfl (lv_at hl 1 rfl) ?_
  refine r_icmp_lt (pc := 2) (a := a) (b := b) hx hb dX4_requireWithin_2 (tgt := 10) (by decide) ⟨by omega, by omega⟩ ⟨by omega, by omega⟩ (fun c_2 => ?_) (fun c_2 => ?_)
  · have c_2_ := c_2
    refine c_throw (pc := 10) (cls := nIAE) (text := "a number is out of its range") (ik := 183) (is := 185) (ic := 187) hC hst hQ hE hP hD hS hl.1 (Or.inr (Or.inl ⟨rfl, rfl, rfl⟩)) (by decide) dX4_requireWithin_10 dX4_requireWithin_13 dX4_requireWithin_14 dX4_requireWithin_16 dX4_requireWithin_19 ⟨by decide, by decide, by decide, by decide⟩ ⟨by decide, by decide⟩ ?_
    exact ⟨by omega, rfl, rfl⟩
  · have c_2_ := c_2
    refine lv_iload_n (pc := 5) hx hb dX4_requireWithin_5 rfl (lv_at hl 0 rfl) ?_
    refine lv_iload_n (pc := 6) hx hb dX4_requireWithin_6 rfl (lv_at hl 2 rfl) ?_
    refine r_icmp_le (pc := 7) (a := a) (b := c) hx hb dX4_requireWithin_7 (tgt := 20) (by decide) ⟨by omega, by omega⟩ ⟨by omega, by omega⟩ (fun c_7 => ?_) (fun c_7 => ?_)
    · have c_7_ := c_7
      refine c_vret (pc := 20) hC hQ hP hD hS (by decide) (by decide) dX4_requireWithin_20 ?_
      exact ⟨by omega, rfl, rfl⟩
    · have c_7_ := c_7
      refine c_throw (pc := 10) (cls := nIAE) (text := "a number is out of its range") (ik := 183) (is := 185) (ic := 187) hC hst hQ hE hP hD hS hl.1 (Or.inr (Or.inl ⟨rfl, rfl, rfl⟩)) (by decide) dX4_requireWithin_10 dX4_requireWithin_13 dX4_requireWithin_14 dX4_requireWithin_16 dX4_requireWithin_19 ⟨by decide, by decide, by decide, by decide⟩ ⟨by decide, by decide⟩ ?_
      exact ⟨by omega, rfl, rfl⟩

abbrev rm_c_R_place : Room := { frames := 7, cells := 2, slots := 12, locals := 130 }
set_option maxRecDepth 100000 in
set_option maxHeartbeats 4000000 in
theorem c_R_place (l : Launch) (ε : EV) (ws : va_W) (hst : l.stackTraces = false) (x9 y9 : Int) (rx : rg x9) (ry : rg y9) : CT l yX4_requirePlace cX4_requirePlace 2 none rm_c_R_place ε [.int (iv x9), .int (iv y9)] (ws) (fun v w => ((0 ≤ x9 ∧ x9 ≤ 31) ∧ 0 ≤ y9 ∧ y9 ≤ 31) ∧ v = none ∧ w = ws) (fun E w => ¬ ((0 ≤ x9 ∧ x9 ≤ 31) ∧ 0 ≤ y9 ∧ y9 ≤ 31) ∧ E = nIAE ∧ w = ws) := by
  refine CT.intro (by decide +kernel) (Nat.le_of_ble_eq_true rfl) ?_
  intro p9 e9 s9 m9 a9 bl9 me9 c9 ls Q9 hC hE hP hD hl hQ
  have hx := hC.1
  have hb := hC.2.1
  have hK := hE.K
  have hS : WS ε s9.heap s9.heap [] := va_S.rf
  have hl : lv_has ls 2 [(0, .int (iv x9)), (1, .int (iv y9))] := hl
  obtain ⟨H, hH⟩ : ∃ H, H = s9.heap := ⟨_, rfl⟩
  obtain ⟨locs, hlo⟩ : ∃ z : List Loc, z = [] := ⟨_, rfl⟩
  rw [← hH] at hP ⊢
  have hS : WS ε s9.heap H locs := by rw [hH, hlo]; exact hS
  rw [← hlo]
  clear hH hlo
  refine lv_iload_n (pc := 0) hx hb dX4_requirePlace_0 rfl (lv_at hl 0 rfl) ?_
  refine lv_iconst (pc := 1) (v := iv 0) hx hb dX4_requirePlace_1 rfl ?_
  refine lv_bipush (pc := 2) (v := iv 31) hx hb dX4_requirePlace_2 (by decide) ?_
  refine c_callS (pc := 4) (y := yX4_requireWithin) (As := [.int (iv x9), .int (iv 0), .int (iv 31)]) (rest := []) hC hE hP hD hS hl.1 (c_R_within l ε ws hst (x9) (0) (31) ⟨by omega, by omega⟩ ⟨by omega, by omega⟩ ⟨by omega, by omega⟩) m_5_5 m_5_6 m_0_2 m_5_7 hd_yX4_requireWithin rfl ⟨⟨by decide, by decide⟩, by decide, by decide⟩ (Nat.le_of_ble_eq_true rfl) rfl dX4_requirePlace_4 (fun E ce q9 ws1 H1 locs1 hq hP hD hS h1 h2 h3 => c_out hC hQ hP hD hS h1 h2 h3 (by decide) (by decide) (⟨fun z => hq.1 z.1, hq.2⟩)) (fun v ws1 H locs hq hP hD hS => ?_)
  obtain ⟨hg1, hv_, hw_⟩ := hq
  rw [hw_] at hP hD
  rw [hv_]
  clear hv_ hw_
  dsimp only [Option.toList, List.cons_append, List.nil_append]
  refine lv_iload_n (pc := 7) hx hb dX4_requirePlace_7 rfl (lv_at hl 1 rfl) ?_
  refine lv_iconst (pc := 8) (v := iv 0) hx hb dX4_requirePlace_8 rfl ?_
  refine lv_bipush (pc := 9) (v := iv 31) hx hb dX4_requirePlace_9 (by decide) ?_
  refine c_callS (pc := 11) (y := yX4_requireWithin) (As := [.int (iv y9), .int (iv 0), .int (iv 31)]) (rest := []) hC hE hP hD hS hl.1 (c_R_within l ε ws hst (y9) (0) (31) ⟨by omega, by omega⟩ ⟨by omega, by omega⟩ ⟨by omega, by omega⟩) m_5_5 m_5_6 m_0_2 m_5_7 hd_yX4_requireWithin rfl ⟨⟨by decide, by decide⟩, by decide, by decide⟩ (Nat.le_of_ble_eq_true rfl) rfl dX4_requirePlace_11 (fun E ce q9 ws1 H1 locs1 hq hP hD hS h1 h2 h3 => c_out hC hQ hP hD hS h1 h2 h3 (by decide) (by decide) (⟨fun z => hq.1 z.2, hq.2⟩)) (fun v ws1 H locs hq hP hD hS => ?_)
  obtain ⟨hg2, hv_, hw_⟩ := hq
  rw [hw_] at hP hD
  rw [hv_]
  clear hv_ hw_
  dsimp only [Option.toList, List.cons_append, List.nil_append]
  refine c_vret (pc := 14) hC hQ hP hD hS (by decide) (by decide) dX4_requirePlace_14 ?_
  exact ⟨by omega, rfl, rfl⟩

abbrev rm_c_R_reqP : Room := { frames := 6, cells := 1, slots := 6, locals := 90 }
set_option maxRecDepth 100000 in
set_option maxHeartbeats 4000000 in
theorem c_R_reqP (l : Launch) (ε : EV) (ws : va_W) (hst : l.stackTraces = false) (x : Nat) (n : Nat → Int) (G : Nat → Nat → Int) (hR : RX (IN ws) ε x n G) (hN : NB n) (i : Int) (ri : rg i) : CT l yX4_requirePattern cX4_requirePattern 2 none rm_c_R_reqP ε [.ref x, .int (iv i)] (ws) (fun v w => (0 ≤ i ∧ i < n 1) ∧ v = none ∧ w = ws) (fun E w => ¬ (0 ≤ i ∧ i < n 1) ∧ E = nIOE ∧ w = ws) := by
  refine CT.intro (by decide +kernel) (Nat.le_of_ble_eq_true rfl) ?_
  intro p9 e9 s9 m9 a9 bl9 me9 c9 ls Q9 hC hE hP hD hl hQ
  have hx := hC.1
  have hb := hC.2.1
  have hK := hE.K
  have hS : WS ε s9.heap s9.heap [] := va_S.rf
  have hl : lv_has ls 2 [(0, .ref x), (1, .int (iv i))] := hl
  obtain ⟨H, hH⟩ : ∃ H, H = s9.heap := ⟨_, rfl⟩
  obtain ⟨locs, hlo⟩ : ∃ z : List Loc, z = [] := ⟨_, rfl⟩
  rw [← hH] at hP ⊢
  have hS : WS ε s9.heap H locs := by rw [hH, hlo]; exact hS
  rw [← hlo]
  clear hH hlo
  obtain ⟨dr, aP, aL, aT, aC, Dr, eP, eL, eT, eC, hx0, hxD, hlP, hlL, hlT, hlC, hpP, hpL, hpT, hpC⟩ := id hR
  have hnb := hN
  obtain ⟨mdP, edP, hoP, -⟩ := id hlP
  obtain ⟨mdL, edL, hoL, -⟩ := id hlL
  obtain ⟨mdT, edT, hoT, -⟩ := id hlT
  obtain ⟨mdC, edC, hoC, -⟩ := id hlC
  refine lv_iload_n (pc := 0) hx hb dX4_requirePattern_0 rfl (lv_at hl 1 rfl) ?_
  refine r_if_lt (pc := 1) (a := i) hx hb dX4_requirePattern_1 (tgt := 15) (by decide) ⟨by omega, by omega⟩ (fun c_1 => ?_) (fun c_1 => ?_)
  · have c_1_ := c_1
    refine c_throw (pc := 15) (cls := nIOE) (text := "there is no such pattern") (ik := 188) (is := 190) (ic := 192) hC hst hQ hE hP hD hS hl.1 (Or.inr (Or.inr ⟨rfl, rfl, rfl⟩)) (by decide) dX4_requirePattern_15 dX4_requirePattern_18 dX4_requirePattern_19 dX4_requirePattern_21 dX4_requirePattern_24 ⟨by decide, by decide, by decide, by decide⟩ ⟨by decide, by decide⟩ ?_
    exact ⟨by omega, rfl, rfl⟩
  · have c_1_ := c_1
    refine lv_iload_n (pc := 4) hx hb dX4_requirePattern_4 rfl (lv_at hl 1 rfl) ?_
    refine lv_aload_n (pc := 5) hx hb dX4_requirePattern_5 rfl (lv_at hl 0 rfl) ?_
    refine r_get (pc := 6) hC hK hP hx0 (hc := rfl) (fun w h => wt_0 w h) 2 (by decide) m_1_0 (fun _ h => h) (v := .ref aP) rfl dX4_requirePattern_6 ?_
    refine c_callV (pc := 9) (y := yJx4a65c_size_8abf5) (As := []) (rest := [.int (iv i)]) hC hE hP hD hS hl.1 (c_A_sizeL l ε ws hlP) m_2_3 m_2_4 m_2_5 m_0_24 m_2_6 hoP rfl hd_yJx4a65c_size_8abf5 rfl ⟨⟨by decide, by decide⟩, by decide, by decide⟩ (Nat.le_of_ble_eq_true rfl) rfl dX4_requirePattern_9 kxN (fun v ws1 H locs hq hP hD hS => ?_)
    rw [hq.2] at hP hD
    rw [hq.1]
    dsimp only [Option.toList, List.cons_append, List.nil_append]
    refine r_icmp_lt (pc := 12) (a := i) (b := n 1) hx hb dX4_requirePattern_12 (tgt := 25) (by decide) ⟨by omega, by omega⟩ ⟨by omega, by omega⟩ (fun c_12 => ?_) (fun c_12 => ?_)
    · have c_12_ := c_12
      refine c_vret (pc := 25) hC hQ hP hD hS (by decide) (by decide) dX4_requirePattern_25 ?_
      exact ⟨by omega, rfl, rfl⟩
    · have c_12_ := c_12
      refine c_throw (pc := 15) (cls := nIOE) (text := "there is no such pattern") (ik := 188) (is := 190) (ic := 192) hC hst hQ hE hP hD hS hl.1 (Or.inr (Or.inr ⟨rfl, rfl, rfl⟩)) (by decide) dX4_requirePattern_15 dX4_requirePattern_18 dX4_requirePattern_19 dX4_requirePattern_21 dX4_requirePattern_24 ⟨by decide, by decide, by decide, by decide⟩ ⟨by decide, by decide⟩ ?_
      exact ⟨by omega, rfl, rfl⟩

abbrev rm_c_R_reqPN : Room := { frames := 1, cells := 0, slots := 0, locals := 25 }
set_option maxRecDepth 100000 in
set_option maxHeartbeats 4000000 in
theorem c_R_reqPN (l : Launch) (ε : EV) (ws : va_W) (x : Nat) (n : Nat → Int) (G : Nat → Nat → Int) (hR : RX (IN ws) ε x n G) (hN : NB n) (i : Int) (hi : (0 ≤ i ∧ i < n 1)) : CT l yX4_requirePattern cX4_requirePattern 2 none rm_c_R_reqPN ε [.ref x, .int (iv i)] (ws) (fun v w => (0 ≤ i ∧ i < n 1) ∧ v = none ∧ w = ws) NX := by
  refine CT.intro (by decide +kernel) (Nat.le_of_ble_eq_true rfl) ?_
  intro p9 e9 s9 m9 a9 bl9 me9 c9 ls Q9 hC hE hP hD hl hQ
  have hx := hC.1
  have hb := hC.2.1
  have hK := hE.K
  have hS : WS ε s9.heap s9.heap [] := va_S.rf
  have hl : lv_has ls 2 [(0, .ref x), (1, .int (iv i))] := hl
  obtain ⟨H, hH⟩ : ∃ H, H = s9.heap := ⟨_, rfl⟩
  obtain ⟨locs, hlo⟩ : ∃ z : List Loc, z = [] := ⟨_, rfl⟩
  rw [← hH] at hP ⊢
  have hS : WS ε s9.heap H locs := by rw [hH, hlo]; exact hS
  rw [← hlo]
  clear hH hlo
  obtain ⟨dr, aP, aL, aT, aC, Dr, eP, eL, eT, eC, hx0, hxD, hlP, hlL, hlT, hlC, hpP, hpL, hpT, hpC⟩ := id hR
  have hnb := hN
  obtain ⟨mdP, edP, hoP, -⟩ := id hlP
  obtain ⟨mdL, edL, hoL, -⟩ := id hlL
  obtain ⟨mdT, edT, hoT, -⟩ := id hlT
  obtain ⟨mdC, edC, hoC, -⟩ := id hlC
  refine lv_iload_n (pc := 0) hx hb dX4_requirePattern_0 rfl (lv_at hl 1 rfl) ?_
  refine r_if_lt (pc := 1) (a := i) hx hb dX4_requirePattern_1 (tgt := 15) (by decide) ⟨by omega, by omega⟩ (fun c_1 => ?_) (fun c_1 => ?_)
  · have c_1_ := c_1
    omega
  · have c_1_ := c_1
    refine lv_iload_n (pc := 4) hx hb dX4_requirePattern_4 rfl (lv_at hl 1 rfl) ?_
    refine lv_aload_n (pc := 5) hx hb dX4_requirePattern_5 rfl (lv_at hl 0 rfl) ?_
    refine r_get (pc := 6) hC hK hP hx0 (hc := rfl) (fun w h => wt_0 w h) 2 (by decide) m_1_0 (fun _ h => h) (v := .ref aP) rfl dX4_requirePattern_6 ?_
    refine c_callV (pc := 9) (y := yJx4a65c_size_8abf5) (As := []) (rest := [.int (iv i)]) hC hE hP hD hS hl.1 (c_A_sizeL l ε ws hlP) m_2_3 m_2_4 m_2_5 m_0_24 m_2_6 hoP rfl hd_yJx4a65c_size_8abf5 rfl ⟨⟨by decide, by decide⟩, by decide, by decide⟩ (Nat.le_of_ble_eq_true rfl) rfl dX4_requirePattern_9 kxN (fun v ws1 H locs hq hP hD hS => ?_)
    rw [hq.2] at hP hD
    rw [hq.1]
    dsimp only [Option.toList, List.cons_append, List.nil_append]
    refine r_icmp_lt (pc := 12) (a := i) (b := n 1) hx hb dX4_requirePattern_12 (tgt := 25) (by decide) ⟨by omega, by omega⟩ ⟨by omega, by omega⟩ (fun c_12 => ?_) (fun c_12 => ?_)
    · have c_12_ := c_12
      refine c_vret (pc := 25) hC hQ hP hD hS (by decide) (by decide) dX4_requirePattern_25 ?_
      exact ⟨hi, rfl, rfl⟩
    · have c_12_ := c_12
      omega

abbrev rm_c_R_reqL : Room := { frames := 6, cells := 1, slots := 6, locals := 90 }
set_option maxRecDepth 100000 in
set_option maxHeartbeats 4000000 in
theorem c_R_reqL (l : Launch) (ε : EV) (ws : va_W) (hst : l.stackTraces = false) (x : Nat) (n : Nat → Int) (G : Nat → Nat → Int) (hR : RX (IN ws) ε x n G) (hN : NB n) (i : Int) (ri : rg i) : CT l yX4_requireLamp cX4_requireLamp 2 none rm_c_R_reqL ε [.ref x, .int (iv i)] (ws) (fun v w => (0 ≤ i ∧ i < n 2) ∧ v = none ∧ w = ws) (fun E w => ¬ (0 ≤ i ∧ i < n 2) ∧ E = nIOE ∧ w = ws) := by
  refine CT.intro (by decide +kernel) (Nat.le_of_ble_eq_true rfl) ?_
  intro p9 e9 s9 m9 a9 bl9 me9 c9 ls Q9 hC hE hP hD hl hQ
  have hx := hC.1
  have hb := hC.2.1
  have hK := hE.K
  have hS : WS ε s9.heap s9.heap [] := va_S.rf
  have hl : lv_has ls 2 [(0, .ref x), (1, .int (iv i))] := hl
  obtain ⟨H, hH⟩ : ∃ H, H = s9.heap := ⟨_, rfl⟩
  obtain ⟨locs, hlo⟩ : ∃ z : List Loc, z = [] := ⟨_, rfl⟩
  rw [← hH] at hP ⊢
  have hS : WS ε s9.heap H locs := by rw [hH, hlo]; exact hS
  rw [← hlo]
  clear hH hlo
  obtain ⟨dr, aP, aL, aT, aC, Dr, eP, eL, eT, eC, hx0, hxD, hlP, hlL, hlT, hlC, hpP, hpL, hpT, hpC⟩ := id hR
  have hnb := hN
  obtain ⟨mdP, edP, hoP, -⟩ := id hlP
  obtain ⟨mdL, edL, hoL, -⟩ := id hlL
  obtain ⟨mdT, edT, hoT, -⟩ := id hlT
  obtain ⟨mdC, edC, hoC, -⟩ := id hlC
  refine lv_iload_n (pc := 0) hx hb dX4_requireLamp_0 rfl (lv_at hl 1 rfl) ?_
  refine r_if_lt (pc := 1) (a := i) hx hb dX4_requireLamp_1 (tgt := 15) (by decide) ⟨by omega, by omega⟩ (fun c_1 => ?_) (fun c_1 => ?_)
  · have c_1_ := c_1
    refine c_throw (pc := 15) (cls := nIOE) (text := "there is no such lamp") (ik := 188) (is := 193) (ic := 192) hC hst hQ hE hP hD hS hl.1 (Or.inr (Or.inr ⟨rfl, rfl, rfl⟩)) (by decide) dX4_requireLamp_15 dX4_requireLamp_18 dX4_requireLamp_19 dX4_requireLamp_21 dX4_requireLamp_24 ⟨by decide, by decide, by decide, by decide⟩ ⟨by decide, by decide⟩ ?_
    exact ⟨by omega, rfl, rfl⟩
  · have c_1_ := c_1
    refine lv_iload_n (pc := 4) hx hb dX4_requireLamp_4 rfl (lv_at hl 1 rfl) ?_
    refine lv_aload_n (pc := 5) hx hb dX4_requireLamp_5 rfl (lv_at hl 0 rfl) ?_
    refine r_get (pc := 6) hC hK hP hx0 (hc := rfl) (fun w h => wt_0 w h) 3 (by decide) m_1_1 (fun _ h => h) (v := .ref aL) rfl dX4_requireLamp_6 ?_
    refine c_callV (pc := 9) (y := yJx4a65c_size_8abf5) (As := []) (rest := [.int (iv i)]) hC hE hP hD hS hl.1 (c_A_sizeL l ε ws hlL) m_2_3 m_2_4 m_2_5 m_0_24 m_2_6 hoL rfl hd_yJx4a65c_size_8abf5 rfl ⟨⟨by decide, by decide⟩, by decide, by decide⟩ (Nat.le_of_ble_eq_true rfl) rfl dX4_requireLamp_9 kxN (fun v ws1 H locs hq hP hD hS => ?_)
    rw [hq.2] at hP hD
    rw [hq.1]
    dsimp only [Option.toList, List.cons_append, List.nil_append]
    refine r_icmp_lt (pc := 12) (a := i) (b := n 2) hx hb dX4_requireLamp_12 (tgt := 25) (by decide) ⟨by omega, by omega⟩ ⟨by omega, by omega⟩ (fun c_12 => ?_) (fun c_12 => ?_)
    · have c_12_ := c_12
      refine c_vret (pc := 25) hC hQ hP hD hS (by decide) (by decide) dX4_requireLamp_25 ?_
      exact ⟨by omega, rfl, rfl⟩
    · have c_12_ := c_12
      refine c_throw (pc := 15) (cls := nIOE) (text := "there is no such lamp") (ik := 188) (is := 193) (ic := 192) hC hst hQ hE hP hD hS hl.1 (Or.inr (Or.inr ⟨rfl, rfl, rfl⟩)) (by decide) dX4_requireLamp_15 dX4_requireLamp_18 dX4_requireLamp_19 dX4_requireLamp_21 dX4_requireLamp_24 ⟨by decide, by decide, by decide, by decide⟩ ⟨by decide, by decide⟩ ?_
      exact ⟨by omega, rfl, rfl⟩

abbrev rm_c_R_reqLN : Room := { frames := 1, cells := 0, slots := 0, locals := 25 }
set_option maxRecDepth 100000 in
set_option maxHeartbeats 4000000 in
theorem c_R_reqLN (l : Launch) (ε : EV) (ws : va_W) (x : Nat) (n : Nat → Int) (G : Nat → Nat → Int) (hR : RX (IN ws) ε x n G) (hN : NB n) (i : Int) (hi : (0 ≤ i ∧ i < n 2)) : CT l yX4_requireLamp cX4_requireLamp 2 none rm_c_R_reqLN ε [.ref x, .int (iv i)] (ws) (fun v w => (0 ≤ i ∧ i < n 2) ∧ v = none ∧ w = ws) NX := by
  refine CT.intro (by decide +kernel) (Nat.le_of_ble_eq_true rfl) ?_
  intro p9 e9 s9 m9 a9 bl9 me9 c9 ls Q9 hC hE hP hD hl hQ
  have hx := hC.1
  have hb := hC.2.1
  have hK := hE.K
  have hS : WS ε s9.heap s9.heap [] := va_S.rf
  have hl : lv_has ls 2 [(0, .ref x), (1, .int (iv i))] := hl
  obtain ⟨H, hH⟩ : ∃ H, H = s9.heap := ⟨_, rfl⟩
  obtain ⟨locs, hlo⟩ : ∃ z : List Loc, z = [] := ⟨_, rfl⟩
  rw [← hH] at hP ⊢
  have hS : WS ε s9.heap H locs := by rw [hH, hlo]; exact hS
  rw [← hlo]
  clear hH hlo
  obtain ⟨dr, aP, aL, aT, aC, Dr, eP, eL, eT, eC, hx0, hxD, hlP, hlL, hlT, hlC, hpP, hpL, hpT, hpC⟩ := id hR
  have hnb := hN
  obtain ⟨mdP, edP, hoP, -⟩ := id hlP
  obtain ⟨mdL, edL, hoL, -⟩ := id hlL
  obtain ⟨mdT, edT, hoT, -⟩ := id hlT
  obtain ⟨mdC, edC, hoC, -⟩ := id hlC
  refine lv_iload_n (pc := 0) hx hb dX4_requireLamp_0 rfl (lv_at hl 1 rfl) ?_
  refine r_if_lt (pc := 1) (a := i) hx hb dX4_requireLamp_1 (tgt := 15) (by decide) ⟨by omega, by omega⟩ (fun c_1 => ?_) (fun c_1 => ?_)
  · have c_1_ := c_1
    omega
  · have c_1_ := c_1
    refine lv_iload_n (pc := 4) hx hb dX4_requireLamp_4 rfl (lv_at hl 1 rfl) ?_
    refine lv_aload_n (pc := 5) hx hb dX4_requireLamp_5 rfl (lv_at hl 0 rfl) ?_
    refine r_get (pc := 6) hC hK hP hx0 (hc := rfl) (fun w h => wt_0 w h) 3 (by decide) m_1_1 (fun _ h => h) (v := .ref aL) rfl dX4_requireLamp_6 ?_
    refine c_callV (pc := 9) (y := yJx4a65c_size_8abf5) (As := []) (rest := [.int (iv i)]) hC hE hP hD hS hl.1 (c_A_sizeL l ε ws hlL) m_2_3 m_2_4 m_2_5 m_0_24 m_2_6 hoL rfl hd_yJx4a65c_size_8abf5 rfl ⟨⟨by decide, by decide⟩, by decide, by decide⟩ (Nat.le_of_ble_eq_true rfl) rfl dX4_requireLamp_9 kxN (fun v ws1 H locs hq hP hD hS => ?_)
    rw [hq.2] at hP hD
    rw [hq.1]
    dsimp only [Option.toList, List.cons_append, List.nil_append]
    refine r_icmp_lt (pc := 12) (a := i) (b := n 2) hx hb dX4_requireLamp_12 (tgt := 25) (by decide) ⟨by omega, by omega⟩ ⟨by omega, by omega⟩ (fun c_12 => ?_) (fun c_12 => ?_)
    · have c_12_ := c_12
      refine c_vret (pc := 25) hC hQ hP hD hS (by decide) (by decide) dX4_requireLamp_25 ?_
      exact ⟨hi, rfl, rfl⟩
    · have c_12_ := c_12
      omega

abbrev rm_c_R_patternAt : Room := { frames := 7, cells := 1, slots := 6, locals := 130 }
set_option maxRecDepth 100000 in
set_option maxHeartbeats 4000000 in
theorem c_R_patternAt (l : Launch) (ε : EV) (ws : va_W) (hst : l.stackTraces = false) (x : Nat) (n : Nat → Int) (G : Nat → Nat → Int) (hR : RX (IN ws) ε x n G) (hN : NB n) (i : Int) (ri : rg i) : CT l yX4_patternAt cX4_patternAt 2 (some (.object "LampRhythms$Pattern")) rm_c_R_patternAt ε [.ref x, .int (iv i)] (ws) (fun v w => (∃ a : Nat, (0 ≤ i ∧ i < n 1) ∧ PATR (IN ws) ε G i a ∧ v = some (.ref a)) ∧ w = ws) (fun E w => ¬ (0 ≤ i ∧ i < n 1) ∧ E = nIOE ∧ w = ws) := by
  refine CT.intro (by decide +kernel) (Nat.le_of_ble_eq_true rfl) ?_
  intro p9 e9 s9 m9 a9 bl9 me9 c9 ls Q9 hC hE hP hD hl hQ
  have hx := hC.1
  have hb := hC.2.1
  have hK := hE.K
  have hS : WS ε s9.heap s9.heap [] := va_S.rf
  have hl : lv_has ls 2 [(0, .ref x), (1, .int (iv i))] := hl
  obtain ⟨H, hH⟩ : ∃ H, H = s9.heap := ⟨_, rfl⟩
  obtain ⟨locs, hlo⟩ : ∃ z : List Loc, z = [] := ⟨_, rfl⟩
  rw [← hH] at hP ⊢
  have hS : WS ε s9.heap H locs := by rw [hH, hlo]; exact hS
  rw [← hlo]
  clear hH hlo
  obtain ⟨dr, aP, aL, aT, aC, Dr, eP, eL, eT, eC, hx0, hxD, hlP, hlL, hlT, hlC, hpP, hpL, hpT, hpC⟩ := id hR
  have hnb := hN
  obtain ⟨mdP, edP, hoP, -⟩ := id hlP
  obtain ⟨mdL, edL, hoL, -⟩ := id hlL
  obtain ⟨mdT, edT, hoT, -⟩ := id hlT
  obtain ⟨mdC, edC, hoC, -⟩ := id hlC
  refine lv_aload_n (pc := 0) hx hb dX4_patternAt_0 rfl (lv_at hl 0 rfl) ?_
  refine lv_iload_n (pc := 1) hx hb dX4_patternAt_1 rfl (lv_at hl 1 rfl) ?_
  refine c_callV (pc := 2) (y := yX4_requirePattern) (As := [.int (iv i)]) (rest := []) hC hE hP hD hS hl.1 (c_R_reqP l ε ws hst x n G hR hN (i) ⟨by omega, by omega⟩) m_3_14 m_3_15 m_3_16 m_0_2 m_3_17 hx0 rfl hd_yX4_requirePattern rfl ⟨⟨by decide, by decide⟩, by decide, by decide⟩ (Nat.le_of_ble_eq_true rfl) rfl dX4_patternAt_2 (fun E ce q9 ws1 H1 locs1 hq hP hD hS h1 h2 h3 => c_out hC hQ hP hD hS h1 h2 h3 (by decide) (by decide) (hq)) (fun v ws1 H locs hq hP hD hS => ?_)
  obtain ⟨hg1, hv_, hw_⟩ := hq
  rw [hw_] at hP hD
  rw [hv_]
  clear hv_ hw_
  dsimp only [Option.toList, List.cons_append, List.nil_append]
  refine lv_aload_n (pc := 5) hx hb dX4_patternAt_5 rfl (lv_at hl 0 rfl) ?_
  refine r_get (pc := 6) hC hK hP hx0 (hc := rfl) (fun w h => wt_0 w h) 2 (by decide) m_1_0 (fun _ h => h) (v := .ref aP) rfl dX4_patternAt_6 ?_
  refine lv_iload_n (pc := 9) hx hb dX4_patternAt_9 rfl (lv_at hl 1 rfl) ?_
  refine c_callV (pc := 10) (y := yJx4a65c_get_915e3) (As := [.int (iv i)]) (rest := []) hC hE hP hD hS hl.1 (c_A_getL l ε ws hlP (i) ⟨by omega, by omega⟩) m_2_13 m_2_14 m_2_15 m_0_24 m_2_16 hoP rfl hd_yJx4a65c_get_915e3 rfl ⟨⟨by decide, by decide⟩, by decide, by decide⟩ (Nat.le_of_ble_eq_true rfl) rfl dX4_patternAt_10 kxN (fun v ws1 H locs hq hP hD hS => ?_)
  rw [hq.2] at hP hD
  rw [hq.1]
  dsimp only [Option.toList, List.cons_append, List.nil_append]
  have hr_h2 := hpP i (by omega) (by omega)
  obtain ⟨p_o3, l_o3, y_o3, -, -, ho_o3, -⟩ := id hr_h2
  refine r_cast (pc := 13) hC hK hP (ci := 4) ho_o3 rfl m_5_14 dX4_patternAt_13 ?_
  refine c_aret (pc := 16) hC (Or.inl ⟨_, rfl⟩) (Or.inr ⟨_, rfl⟩) hQ hP hD hS (by decide) (by decide) dX4_patternAt_16 ?_
  exact ⟨⟨_, ⟨by omega, by omega⟩, hr_h2, rfl⟩, rfl⟩

abbrev rm_c_R_patternAtN : Room := { frames := 3, cells := 0, slots := 0, locals := 85 }
set_option maxRecDepth 100000 in
set_option maxHeartbeats 4000000 in
theorem c_R_patternAtN (l : Launch) (ε : EV) (ws : va_W) (x : Nat) (n : Nat → Int) (G : Nat → Nat → Int) (hR : RX (IN ws) ε x n G) (hN : NB n) (i : Int) (hi : (0 ≤ i ∧ i < n 1)) : CT l yX4_patternAt cX4_patternAt 2 (some (.object "LampRhythms$Pattern")) rm_c_R_patternAtN ε [.ref x, .int (iv i)] (ws) (fun v w => (∃ a : Nat, (0 ≤ i ∧ i < n 1) ∧ PATR (IN ws) ε G i a ∧ v = some (.ref a)) ∧ w = ws) NX := by
  refine CT.intro (by decide +kernel) (Nat.le_of_ble_eq_true rfl) ?_
  intro p9 e9 s9 m9 a9 bl9 me9 c9 ls Q9 hC hE hP hD hl hQ
  have hx := hC.1
  have hb := hC.2.1
  have hK := hE.K
  have hS : WS ε s9.heap s9.heap [] := va_S.rf
  have hl : lv_has ls 2 [(0, .ref x), (1, .int (iv i))] := hl
  obtain ⟨H, hH⟩ : ∃ H, H = s9.heap := ⟨_, rfl⟩
  obtain ⟨locs, hlo⟩ : ∃ z : List Loc, z = [] := ⟨_, rfl⟩
  rw [← hH] at hP ⊢
  have hS : WS ε s9.heap H locs := by rw [hH, hlo]; exact hS
  rw [← hlo]
  clear hH hlo
  obtain ⟨dr, aP, aL, aT, aC, Dr, eP, eL, eT, eC, hx0, hxD, hlP, hlL, hlT, hlC, hpP, hpL, hpT, hpC⟩ := id hR
  have hnb := hN
  obtain ⟨mdP, edP, hoP, -⟩ := id hlP
  obtain ⟨mdL, edL, hoL, -⟩ := id hlL
  obtain ⟨mdT, edT, hoT, -⟩ := id hlT
  obtain ⟨mdC, edC, hoC, -⟩ := id hlC
  refine lv_aload_n (pc := 0) hx hb dX4_patternAt_0 rfl (lv_at hl 0 rfl) ?_
  refine lv_iload_n (pc := 1) hx hb dX4_patternAt_1 rfl (lv_at hl 1 rfl) ?_
  refine c_callV (pc := 2) (y := yX4_requirePattern) (As := [.int (iv i)]) (rest := []) hC hE hP hD hS hl.1 (c_R_reqPN l ε ws x n G hR hN (i) ⟨by omega, by omega⟩) m_3_14 m_3_15 m_3_16 m_0_2 m_3_17 hx0 rfl hd_yX4_requirePattern rfl ⟨⟨by decide, by decide⟩, by decide, by decide⟩ (Nat.le_of_ble_eq_true rfl) rfl dX4_patternAt_2 kxN (fun v ws1 H locs hq hP hD hS => ?_)
  obtain ⟨hg1, hv_, hw_⟩ := hq
  rw [hw_] at hP hD
  rw [hv_]
  clear hv_ hw_
  dsimp only [Option.toList, List.cons_append, List.nil_append]
  refine lv_aload_n (pc := 5) hx hb dX4_patternAt_5 rfl (lv_at hl 0 rfl) ?_
  refine r_get (pc := 6) hC hK hP hx0 (hc := rfl) (fun w h => wt_0 w h) 2 (by decide) m_1_0 (fun _ h => h) (v := .ref aP) rfl dX4_patternAt_6 ?_
  refine lv_iload_n (pc := 9) hx hb dX4_patternAt_9 rfl (lv_at hl 1 rfl) ?_
  refine c_callV (pc := 10) (y := yJx4a65c_get_915e3) (As := [.int (iv i)]) (rest := []) hC hE hP hD hS hl.1 (c_A_getL l ε ws hlP (i) ⟨by omega, by omega⟩) m_2_13 m_2_14 m_2_15 m_0_24 m_2_16 hoP rfl hd_yJx4a65c_get_915e3 rfl ⟨⟨by decide, by decide⟩, by decide, by decide⟩ (Nat.le_of_ble_eq_true rfl) rfl dX4_patternAt_10 kxN (fun v ws1 H locs hq hP hD hS => ?_)
  rw [hq.2] at hP hD
  rw [hq.1]
  dsimp only [Option.toList, List.cons_append, List.nil_append]
  have hr_h2 := hpP i (by omega) (by omega)
  obtain ⟨p_o3, l_o3, y_o3, -, -, ho_o3, -⟩ := id hr_h2
  refine r_cast (pc := 13) hC hK hP (ci := 4) ho_o3 rfl m_5_14 dX4_patternAt_13 ?_
  refine c_aret (pc := 16) hC (Or.inl ⟨_, rfl⟩) (Or.inr ⟨_, rfl⟩) hQ hP hD hS (by decide) (by decide) dX4_patternAt_16 ?_
  exact ⟨⟨_, ⟨by omega, by omega⟩, hr_h2, rfl⟩, rfl⟩

abbrev rm_c_R_lampAt : Room := { frames := 7, cells := 1, slots := 6, locals := 130 }
set_option maxRecDepth 100000 in
set_option maxHeartbeats 4000000 in
theorem c_R_lampAt (l : Launch) (ε : EV) (ws : va_W) (hst : l.stackTraces = false) (x : Nat) (n : Nat → Int) (G : Nat → Nat → Int) (hR : RX (IN ws) ε x n G) (hN : NB n) (i : Int) (ri : rg i) : CT l yX4_lampAt cX4_lampAt 2 (some (.object "LampRhythms$Lamp")) rm_c_R_lampAt ε [.ref x, .int (iv i)] (ws) (fun v w => (∃ a : Nat, (0 ≤ i ∧ i < n 2) ∧ LAMR (IN ws) ε G i a ∧ v = some (.ref a)) ∧ w = ws) (fun E w => ¬ (0 ≤ i ∧ i < n 2) ∧ E = nIOE ∧ w = ws) := by
  refine CT.intro (by decide +kernel) (Nat.le_of_ble_eq_true rfl) ?_
  intro p9 e9 s9 m9 a9 bl9 me9 c9 ls Q9 hC hE hP hD hl hQ
  have hx := hC.1
  have hb := hC.2.1
  have hK := hE.K
  have hS : WS ε s9.heap s9.heap [] := va_S.rf
  have hl : lv_has ls 2 [(0, .ref x), (1, .int (iv i))] := hl
  obtain ⟨H, hH⟩ : ∃ H, H = s9.heap := ⟨_, rfl⟩
  obtain ⟨locs, hlo⟩ : ∃ z : List Loc, z = [] := ⟨_, rfl⟩
  rw [← hH] at hP ⊢
  have hS : WS ε s9.heap H locs := by rw [hH, hlo]; exact hS
  rw [← hlo]
  clear hH hlo
  obtain ⟨dr, aP, aL, aT, aC, Dr, eP, eL, eT, eC, hx0, hxD, hlP, hlL, hlT, hlC, hpP, hpL, hpT, hpC⟩ := id hR
  have hnb := hN
  obtain ⟨mdP, edP, hoP, -⟩ := id hlP
  obtain ⟨mdL, edL, hoL, -⟩ := id hlL
  obtain ⟨mdT, edT, hoT, -⟩ := id hlT
  obtain ⟨mdC, edC, hoC, -⟩ := id hlC
  refine lv_aload_n (pc := 0) hx hb dX4_lampAt_0 rfl (lv_at hl 0 rfl) ?_
  refine lv_iload_n (pc := 1) hx hb dX4_lampAt_1 rfl (lv_at hl 1 rfl) ?_
  refine c_callV (pc := 2) (y := yX4_requireLamp) (As := [.int (iv i)]) (rest := []) hC hE hP hD hS hl.1 (c_R_reqL l ε ws hst x n G hR hN (i) ⟨by omega, by omega⟩) m_9_24 m_10_0 m_10_1 m_0_2 m_10_2 hx0 rfl hd_yX4_requireLamp rfl ⟨⟨by decide, by decide⟩, by decide, by decide⟩ (Nat.le_of_ble_eq_true rfl) rfl dX4_lampAt_2 (fun E ce q9 ws1 H1 locs1 hq hP hD hS h1 h2 h3 => c_out hC hQ hP hD hS h1 h2 h3 (by decide) (by decide) (hq)) (fun v ws1 H locs hq hP hD hS => ?_)
  obtain ⟨hg1, hv_, hw_⟩ := hq
  rw [hw_] at hP hD
  rw [hv_]
  clear hv_ hw_
  dsimp only [Option.toList, List.cons_append, List.nil_append]
  refine lv_aload_n (pc := 5) hx hb dX4_lampAt_5 rfl (lv_at hl 0 rfl) ?_
  refine r_get (pc := 6) hC hK hP hx0 (hc := rfl) (fun w h => wt_0 w h) 3 (by decide) m_1_1 (fun _ h => h) (v := .ref aL) rfl dX4_lampAt_6 ?_
  refine lv_iload_n (pc := 9) hx hb dX4_lampAt_9 rfl (lv_at hl 1 rfl) ?_
  refine c_callV (pc := 10) (y := yJx4a65c_get_915e3) (As := [.int (iv i)]) (rest := []) hC hE hP hD hS hl.1 (c_A_getL l ε ws hlL (i) ⟨by omega, by omega⟩) m_2_13 m_2_14 m_2_15 m_0_24 m_2_16 hoL rfl hd_yJx4a65c_get_915e3 rfl ⟨⟨by decide, by decide⟩, by decide, by decide⟩ (Nat.le_of_ble_eq_true rfl) rfl dX4_lampAt_10 kxN (fun v ws1 H locs hq hP hD hS => ?_)
  rw [hq.2] at hP hD
  rw [hq.1]
  dsimp only [Option.toList, List.cons_append, List.nil_append]
  have hr_h2 := hpL i (by omega) (by omega)
  obtain ⟨s_o3, -, ho_o3, -⟩ := hr_h2.obj
  refine r_cast (pc := 13) hC hK hP (ci := 2) ho_o3 rfl m_14_22 dX4_lampAt_13 ?_
  refine c_aret (pc := 16) hC (Or.inl ⟨_, rfl⟩) (Or.inr ⟨_, rfl⟩) hQ hP hD hS (by decide) (by decide) dX4_lampAt_16 ?_
  exact ⟨⟨_, ⟨by omega, by omega⟩, hr_h2, rfl⟩, rfl⟩

abbrev rm_c_R_lampAtN : Room := { frames := 3, cells := 0, slots := 0, locals := 85 }
set_option maxRecDepth 100000 in
set_option maxHeartbeats 4000000 in
theorem c_R_lampAtN (l : Launch) (ε : EV) (ws : va_W) (x : Nat) (n : Nat → Int) (G : Nat → Nat → Int) (hR : RX (IN ws) ε x n G) (hN : NB n) (i : Int) (hi : (0 ≤ i ∧ i < n 2)) : CT l yX4_lampAt cX4_lampAt 2 (some (.object "LampRhythms$Lamp")) rm_c_R_lampAtN ε [.ref x, .int (iv i)] (ws) (fun v w => (∃ a : Nat, (0 ≤ i ∧ i < n 2) ∧ LAMR (IN ws) ε G i a ∧ v = some (.ref a)) ∧ w = ws) NX := by
  refine CT.intro (by decide +kernel) (Nat.le_of_ble_eq_true rfl) ?_
  intro p9 e9 s9 m9 a9 bl9 me9 c9 ls Q9 hC hE hP hD hl hQ
  have hx := hC.1
  have hb := hC.2.1
  have hK := hE.K
  have hS : WS ε s9.heap s9.heap [] := va_S.rf
  have hl : lv_has ls 2 [(0, .ref x), (1, .int (iv i))] := hl
  obtain ⟨H, hH⟩ : ∃ H, H = s9.heap := ⟨_, rfl⟩
  obtain ⟨locs, hlo⟩ : ∃ z : List Loc, z = [] := ⟨_, rfl⟩
  rw [← hH] at hP ⊢
  have hS : WS ε s9.heap H locs := by rw [hH, hlo]; exact hS
  rw [← hlo]
  clear hH hlo
  obtain ⟨dr, aP, aL, aT, aC, Dr, eP, eL, eT, eC, hx0, hxD, hlP, hlL, hlT, hlC, hpP, hpL, hpT, hpC⟩ := id hR
  have hnb := hN
  obtain ⟨mdP, edP, hoP, -⟩ := id hlP
  obtain ⟨mdL, edL, hoL, -⟩ := id hlL
  obtain ⟨mdT, edT, hoT, -⟩ := id hlT
  obtain ⟨mdC, edC, hoC, -⟩ := id hlC
  refine lv_aload_n (pc := 0) hx hb dX4_lampAt_0 rfl (lv_at hl 0 rfl) ?_
  refine lv_iload_n (pc := 1) hx hb dX4_lampAt_1 rfl (lv_at hl 1 rfl) ?_
  refine c_callV (pc := 2) (y := yX4_requireLamp) (As := [.int (iv i)]) (rest := []) hC hE hP hD hS hl.1 (c_R_reqLN l ε ws x n G hR hN (i) ⟨by omega, by omega⟩) m_9_24 m_10_0 m_10_1 m_0_2 m_10_2 hx0 rfl hd_yX4_requireLamp rfl ⟨⟨by decide, by decide⟩, by decide, by decide⟩ (Nat.le_of_ble_eq_true rfl) rfl dX4_lampAt_2 kxN (fun v ws1 H locs hq hP hD hS => ?_)
  obtain ⟨hg1, hv_, hw_⟩ := hq
  rw [hw_] at hP hD
  rw [hv_]
  clear hv_ hw_
  dsimp only [Option.toList, List.cons_append, List.nil_append]
  refine lv_aload_n (pc := 5) hx hb dX4_lampAt_5 rfl (lv_at hl 0 rfl) ?_
  refine r_get (pc := 6) hC hK hP hx0 (hc := rfl) (fun w h => wt_0 w h) 3 (by decide) m_1_1 (fun _ h => h) (v := .ref aL) rfl dX4_lampAt_6 ?_
  refine lv_iload_n (pc := 9) hx hb dX4_lampAt_9 rfl (lv_at hl 1 rfl) ?_
  refine c_callV (pc := 10) (y := yJx4a65c_get_915e3) (As := [.int (iv i)]) (rest := []) hC hE hP hD hS hl.1 (c_A_getL l ε ws hlL (i) ⟨by omega, by omega⟩) m_2_13 m_2_14 m_2_15 m_0_24 m_2_16 hoL rfl hd_yJx4a65c_get_915e3 rfl ⟨⟨by decide, by decide⟩, by decide, by decide⟩ (Nat.le_of_ble_eq_true rfl) rfl dX4_lampAt_10 kxN (fun v ws1 H locs hq hP hD hS => ?_)
  rw [hq.2] at hP hD
  rw [hq.1]
  dsimp only [Option.toList, List.cons_append, List.nil_append]
  have hr_h2 := hpL i (by omega) (by omega)
  obtain ⟨s_o3, -, ho_o3, -⟩ := hr_h2.obj
  refine r_cast (pc := 13) hC hK hP (ci := 2) ho_o3 rfl m_14_22 dX4_lampAt_13 ?_
  refine c_aret (pc := 16) hC (Or.inl ⟨_, rfl⟩) (Or.inr ⟨_, rfl⟩) hQ hP hD hS (by decide) (by decide) dX4_lampAt_16 ?_
  exact ⟨⟨_, ⟨by omega, by omega⟩, hr_h2, rfl⟩, rfl⟩

abbrev rm_c_R_chartAt : Room := { frames := 6, cells := 1, slots := 6, locals := 90 }
set_option maxRecDepth 100000 in
set_option maxHeartbeats 4000000 in
theorem c_R_chartAt (l : Launch) (ε : EV) (ws : va_W) (hst : l.stackTraces = false) (x : Nat) (n : Nat → Int) (G : Nat → Nat → Int) (hR : RX (IN ws) ε x n G) (hN : NB n) (i : Int) (ri : rg i) : CT l yX4_chartAt cX4_chartAt 2 (some (.object "LampRhythms$Chart")) rm_c_R_chartAt ε [.ref x, .int (iv i)] (ws) (fun v w => (∃ a : Nat, (0 ≤ i ∧ i < n 4) ∧ CHAR (IN ws) ε G i a ∧ v = some (.ref a)) ∧ w = ws) (fun E w => ¬ (0 ≤ i ∧ i < n 4) ∧ E = nIOE ∧ w = ws) := by
  refine CT.intro (by decide +kernel) (Nat.le_of_ble_eq_true rfl) ?_
  intro p9 e9 s9 m9 a9 bl9 me9 c9 ls Q9 hC hE hP hD hl hQ
  have hx := hC.1
  have hb := hC.2.1
  have hK := hE.K
  have hS : WS ε s9.heap s9.heap [] := va_S.rf
  have hl : lv_has ls 2 [(0, .ref x), (1, .int (iv i))] := hl
  obtain ⟨H, hH⟩ : ∃ H, H = s9.heap := ⟨_, rfl⟩
  obtain ⟨locs, hlo⟩ : ∃ z : List Loc, z = [] := ⟨_, rfl⟩
  rw [← hH] at hP ⊢
  have hS : WS ε s9.heap H locs := by rw [hH, hlo]; exact hS
  rw [← hlo]
  clear hH hlo
  obtain ⟨dr, aP, aL, aT, aC, Dr, eP, eL, eT, eC, hx0, hxD, hlP, hlL, hlT, hlC, hpP, hpL, hpT, hpC⟩ := id hR
  have hnb := hN
  obtain ⟨mdP, edP, hoP, -⟩ := id hlP
  obtain ⟨mdL, edL, hoL, -⟩ := id hlL
  obtain ⟨mdT, edT, hoT, -⟩ := id hlT
  obtain ⟨mdC, edC, hoC, -⟩ := id hlC
  refine lv_iload_n (pc := 0) hx hb dX4_chartAt_0 rfl (lv_at hl 1 rfl) ?_
  refine r_if_lt (pc := 1) (a := i) hx hb dX4_chartAt_1 (tgt := 15) (by decide) ⟨by omega, by omega⟩ (fun c_1 => ?_) (fun c_1 => ?_)
  · have c_1_ := c_1
    refine c_throw (pc := 15) (cls := nIOE) (text := "there is no such chart") (ik := 188) (is := 195) (ic := 192) hC hst hQ hE hP hD hS hl.1 (Or.inr (Or.inr ⟨rfl, rfl, rfl⟩)) (by decide) dX4_chartAt_15 dX4_chartAt_18 dX4_chartAt_19 dX4_chartAt_21 dX4_chartAt_24 ⟨by decide, by decide, by decide, by decide⟩ ⟨by decide, by decide⟩ ?_
    exact ⟨by omega, rfl, rfl⟩
  · have c_1_ := c_1
    refine lv_iload_n (pc := 4) hx hb dX4_chartAt_4 rfl (lv_at hl 1 rfl) ?_
    refine lv_aload_n (pc := 5) hx hb dX4_chartAt_5 rfl (lv_at hl 0 rfl) ?_
    refine r_get (pc := 6) hC hK hP hx0 (hc := rfl) (fun w h => wt_0 w h) 5 (by decide) m_1_3 (fun _ h => h) (v := .ref aC) rfl dX4_chartAt_6 ?_
    refine c_callV (pc := 9) (y := yJx4a65c_size_8abf5) (As := []) (rest := [.int (iv i)]) hC hE hP hD hS hl.1 (c_A_sizeL l ε ws hlC) m_2_3 m_2_4 m_2_5 m_0_24 m_2_6 hoC rfl hd_yJx4a65c_size_8abf5 rfl ⟨⟨by decide, by decide⟩, by decide, by decide⟩ (Nat.le_of_ble_eq_true rfl) rfl dX4_chartAt_9 kxN (fun v ws1 H locs hq hP hD hS => ?_)
    rw [hq.2] at hP hD
    rw [hq.1]
    dsimp only [Option.toList, List.cons_append, List.nil_append]
    refine r_icmp_lt (pc := 12) (a := i) (b := n 4) hx hb dX4_chartAt_12 (tgt := 25) (by decide) ⟨by omega, by omega⟩ ⟨by omega, by omega⟩ (fun c_12 => ?_) (fun c_12 => ?_)
    · have c_12_ := c_12
      refine lv_aload_n (pc := 25) hx hb dX4_chartAt_25 rfl (lv_at hl 0 rfl) ?_
      refine r_get (pc := 26) hC hK hP hx0 (hc := rfl) (fun w h => wt_0 w h) 5 (by decide) m_1_3 (fun _ h => h) (v := .ref aC) rfl dX4_chartAt_26 ?_
      refine lv_iload_n (pc := 29) hx hb dX4_chartAt_29 rfl (lv_at hl 1 rfl) ?_
      refine c_callV (pc := 30) (y := yJx4a65c_get_915e3) (As := [.int (iv i)]) (rest := []) hC hE hP hD hS hl.1 (c_A_getL l ε ws hlC (i) ⟨by omega, by omega⟩) m_2_13 m_2_14 m_2_15 m_0_24 m_2_16 hoC rfl hd_yJx4a65c_get_915e3 rfl ⟨⟨by decide, by decide⟩, by decide, by decide⟩ (Nat.le_of_ble_eq_true rfl) rfl dX4_chartAt_30 kxN (fun v ws1 H locs hq hP hD hS => ?_)
      rw [hq.2] at hP hD
      rw [hq.1]
      dsimp only [Option.toList, List.cons_append, List.nil_append]
      have hr_h1 := hpC i (by omega) (by omega)
      obtain ⟨p_o2, S_o2, ho_o2, hp_o2, hs_o2⟩ := id hr_h1
      refine r_cast (pc := 33) hC hK hP (ci := 1) ho_o2 rfl m_12_15 dX4_chartAt_33 ?_
      refine c_aret (pc := 36) hC (Or.inl ⟨_, rfl⟩) (Or.inr ⟨_, rfl⟩) hQ hP hD hS (by decide) (by decide) dX4_chartAt_36 ?_
      exact ⟨⟨_, ⟨by omega, by omega⟩, hr_h1, rfl⟩, rfl⟩
    · have c_12_ := c_12
      refine c_throw (pc := 15) (cls := nIOE) (text := "there is no such chart") (ik := 188) (is := 195) (ic := 192) hC hst hQ hE hP hD hS hl.1 (Or.inr (Or.inr ⟨rfl, rfl, rfl⟩)) (by decide) dX4_chartAt_15 dX4_chartAt_18 dX4_chartAt_19 dX4_chartAt_21 dX4_chartAt_24 ⟨by decide, by decide, by decide, by decide⟩ ⟨by decide, by decide⟩ ?_
      exact ⟨by omega, rfl, rfl⟩

abbrev rm_c_R_isLit : Room := { frames := 4, cells := 0, slots := 0, locals := 115 }
set_option maxRecDepth 100000 in
set_option maxHeartbeats 4000000 in
theorem c_R_isLit (l : Launch) (ε : EV) (ws : va_W) (x : Nat) (n : Nat → Int) (G : Nat → Nat → Int) (hR : RX (IN ws) ε x n G) (hN : NB n) (hV : VPat n G) (hL : VLam n G) (a : Nat) (i : Int) (hi : 0 ≤ i ∧ i < n 2) (ha : LAMR (IN ws) ε G i a) (t : Int) (ht : 0 ≤ t ∧ t ≤ 200000) : CT l yX4_isLit cX4_isLit 3 (some .boolean) rm_c_R_isLit ε [.ref x, .ref a, .int (iv t)] (ws) (fun v w => v = some (.int (iv (bz (ON G i t)))) ∧ w = ws) NX := by
  refine CT.intro (by decide +kernel) (Nat.le_of_ble_eq_true rfl) ?_
  intro p9 e9 s9 m9 a9 bl9 me9 c9 ls Q9 hC hE hP hD hl hQ
  have hx := hC.1
  have hb := hC.2.1
  have hK := hE.K
  have hS : WS ε s9.heap s9.heap [] := va_S.rf
  have hl : lv_has ls 3 [(0, .ref x), (1, .ref a), (2, .int (iv t))] := hl
  obtain ⟨H, hH⟩ : ∃ H, H = s9.heap := ⟨_, rfl⟩
  obtain ⟨locs, hlo⟩ : ∃ z : List Loc, z = [] := ⟨_, rfl⟩
  rw [← hH] at hP ⊢
  have hS : WS ε s9.heap H locs := by rw [hH, hlo]; exact hS
  rw [← hlo]
  clear hH hlo
  obtain ⟨dr, aP, aL, aT, aC, Dr, eP, eL, eT, eC, hx0, hxD, hlP, hlL, hlT, hlC, hpP, hpL, hpT, hpC⟩ := id hR
  have hnb := hN
  obtain ⟨mdP, edP, hoP, -⟩ := id hlP
  obtain ⟨mdL, edL, hoL, -⟩ := id hlL
  obtain ⟨mdT, edT, hoT, -⟩ := id hlT
  obtain ⟨mdC, edC, hoC, -⟩ := id hlC
  have hlv : LV n G (i) := hL.i (by omega) (by omega)
  have hlv9 := id hlv
  obtain ⟨hlv4, hlv5, hlv6, hlv7, hlv8, hlvz, hlvf⟩ := hlv9
  obtain ⟨s_o1, -, ho_o1, -⟩ := ha.obj
  refine lv_aload_n (pc := 0) hx hb dX4_isLit_0 rfl (lv_at hl 1 rfl) ?_
  refine r_get (pc := 1) hC hK hP ho_o1 (hc := rfl) (fun w h => wt_4 w h) 5 (by decide) m_10_10 (fun _ h => h) (v := .int (iv (G 10 i.toNat))) rfl dX4_isLit_1 ?_
  refine r_if_ne (pc := 4) (a := G 10 i.toNat) hx hb dX4_isLit_4 (tgt := 31) (by decide) ⟨by omega, by omega⟩ (fun c_4 => ?_) (fun c_4 => ?_)
  · have c_4_ := c_4
    refine lv_iconst (pc := 31) (v := iv 0) hx hb dX4_isLit_31 rfl ?_
    refine c_zret (pc := 32) hC hQ hP hD hS (by decide) (by decide) dX4_isLit_32 nz_0 ?_
    exact ⟨congrArg (fun z => some (Value.int z)) (bz_0 (by unfold ON; rw [decide_eq_false (by omega : ¬ G 10 i.toNat = 0)]; rfl)), rfl⟩
  · have c_4_ := c_4
    refine lv_aload_n (pc := 7) hx hb dX4_isLit_7 rfl (lv_at hl 0 rfl) ?_
    refine lv_aload_n (pc := 8) hx hb dX4_isLit_8 rfl (lv_at hl 1 rfl) ?_
    refine r_get (pc := 9) hC hK hP ho_o1 (hc := rfl) (fun w h => wt_4 w h) 3 (by decide) m_3_8 (fun _ h => h) (v := .int (iv (G 6 i.toNat))) rfl dX4_isLit_9 ?_
    refine c_callV (pc := 12) (y := yX4_patternAt) (As := [.int (iv (G 6 i.toNat))]) (rest := []) hC hE hP hD hS hl.1 (c_R_patternAtN l ε ws x n G hR hN (G 6 i.toNat) ⟨by omega, by omega⟩) m_3_9 m_3_10 m_3_11 m_0_2 m_3_12 hx0 rfl hd_yX4_patternAt rfl ⟨⟨by decide, by decide⟩, by decide, by decide⟩ (Nat.le_of_ble_eq_true rfl) rfl dX4_isLit_12 kxN (fun v ws1 H locs hq hP hD hS => ?_)
    obtain ⟨⟨al_k2, hc_k2, hr_k2, hv_⟩, hw_⟩ := hq
    rw [hw_] at hP hD
    rw [hv_]
    clear hv_ hw_
    dsimp only [Option.toList, List.cons_append, List.nil_append]
    obtain ⟨p_o3, l_o3, y_o3, -, -, ho_o3, -⟩ := id hr_k2
    refine lv_iload_n (pc := 15) hx hb dX4_isLit_15 rfl (lv_at hl 2 rfl) ?_
    refine lv_aload_n (pc := 16) hx hb dX4_isLit_16 rfl (lv_at hl 1 rfl) ?_
    refine r_get (pc := 17) hC hK hP ho_o1 (hc := rfl) (fun w h => wt_4 w h) 4 (by decide) m_9_19 (fun _ h => h) (v := .int (iv (G 7 i.toNat))) rfl dX4_isLit_17 ?_
    refine r_iadd (pc := 20) (a := t) (b := G 7 i.toNat) hx hb dX4_isLit_20 ?_
    refine c_callV (pc := 21) (y := yX3_isLight) (As := [.int (iv (t + (G 7 i.toNat)))]) (rest := []) hC hE hP hD hS hl.1 (c_P_light l ε ws hr_k2 (hV.q (q := G 6 i.toNat) (by omega) (by omega)) (t + (G 7 i.toNat)) ⟨by omega, by omega⟩) m_11_5 m_9_12 m_9_13 m_3_23 m_9_14 ho_o3 rfl hd_yX3_isLight rfl ⟨⟨by decide, by decide⟩, by decide, by decide⟩ (Nat.le_of_ble_eq_true rfl) rfl dX4_isLit_21 kxN (fun v ws1 H locs hq hP hD hS => ?_)
    rw [hq.2] at hP hD
    rw [hq.1]
    dsimp only [Option.toList, List.cons_append, List.nil_append]
    refine r_if_b0 (pc := 24) (b := LQ G (G 6 i.toNat) (t + (G 7 i.toNat))) hx hb dX4_isLit_24 (tgt := 31) (by decide)  (fun c_24 => ?_) (fun c_24 => ?_)
    · have c_24_ := c_24
      have hlq := c_24
      refine lv_iconst (pc := 31) (v := iv 0) hx hb dX4_isLit_31 rfl ?_
      refine c_zret (pc := 32) hC hQ hP hD hS (by decide) (by decide) dX4_isLit_32 nz_0 ?_
      exact ⟨congrArg (fun z => some (Value.int z)) (bz_0 (by unfold ON; rw [hlq, Bool.and_false])), rfl⟩
    · have c_24_ := c_24
      have hlq := c_24
      refine lv_iconst (pc := 27) (v := iv 1) hx hb dX4_isLit_27 rfl ?_
      refine lv_goto (pc := 28) (tgt := 32) hx hb dX4_isLit_28 (by decide) ?_
      refine c_zret (pc := 32) hC hQ hP hD hS (by decide) (by decide) dX4_isLit_32 nz_1 ?_
      exact ⟨congrArg (fun z => some (Value.int z)) (bz_1 (by unfold ON; rw [decide_eq_true (by omega : G 10 i.toNat = 0), hlq]; rfl)), rfl⟩

abbrev rm_c_R_clash : Room := { frames := 4, cells := 0, slots := 0, locals := 115 }
set_option maxRecDepth 100000 in
set_option maxHeartbeats 4000000 in
theorem c_R_clash (l : Launch) (ε : EV) (ws : va_W) (x : Nat) (n : Nat → Int) (G : Nat → Nat → Int) (hR : RX (IN ws) ε x n G) (hN : NB n) (hV : VPat n G) (hL : VLam n G) (a : Nat) (i : Int) (hi : 0 ≤ i ∧ i < n 2) (ha : LAMR (IN ws) ε G i a) (b : Nat) (k : Int) (hk : 0 ≤ k ∧ k < n 2) (hk9 : LAMR (IN ws) ε G k b) : CT l yX4_clash cX4_clash 3 (some .boolean) rm_c_R_clash ε [.ref x, .ref a, .ref b] (ws) (fun v w => v = some (.int (iv (bz (tb (PH1 G (G 6 i.toNat) (G 6 k.toNat) ∧ 0 < SH1 G i k))))) ∧ w = ws) NX := by
  refine CT.intro (by decide +kernel) (Nat.le_of_ble_eq_true rfl) ?_
  intro p9 e9 s9 m9 a9 bl9 me9 c9 ls Q9 hC hE hP hD hl hQ
  have hx := hC.1
  have hb := hC.2.1
  have hK := hE.K
  have hS : WS ε s9.heap s9.heap [] := va_S.rf
  have hl : lv_has ls 3 [(0, .ref x), (1, .ref a), (2, .ref b)] := hl
  obtain ⟨H, hH⟩ : ∃ H, H = s9.heap := ⟨_, rfl⟩
  obtain ⟨locs, hlo⟩ : ∃ z : List Loc, z = [] := ⟨_, rfl⟩
  rw [← hH] at hP ⊢
  have hS : WS ε s9.heap H locs := by rw [hH, hlo]; exact hS
  rw [← hlo]
  clear hH hlo
  obtain ⟨dr, aP, aL, aT, aC, Dr, eP, eL, eT, eC, hx0, hxD, hlP, hlL, hlT, hlC, hpP, hpL, hpT, hpC⟩ := id hR
  have hnb := hN
  obtain ⟨mdP, edP, hoP, -⟩ := id hlP
  obtain ⟨mdL, edL, hoL, -⟩ := id hlL
  obtain ⟨mdT, edT, hoT, -⟩ := id hlT
  obtain ⟨mdC, edC, hoC, -⟩ := id hlC
  have hlv : LV n G (i) := hL.i (by omega) (by omega)
  have hlv9 := id hlv
  obtain ⟨hlv4, hlv5, hlv6, hlv7, hlv8, hlvz, hlvf⟩ := hlv9
  have hlw : LV n G (k) := hL.i (by omega) (by omega)
  have hlw9 := id hlw
  obtain ⟨hlw4, hlw5, hlw6, hlw7, hlw8, hlwz, hlwf⟩ := hlw9
  have hsb := SH1_bd G i k
  obtain ⟨s_o1, -, ho_o1, -⟩ := ha.obj
  obtain ⟨s_o2, -, ho_o2, -⟩ := hk9.obj
  refine lv_aload_n (pc := 0) hx hb dX4_clash_0 rfl (lv_at hl 0 rfl) ?_
  refine lv_aload_n (pc := 1) hx hb dX4_clash_1 rfl (lv_at hl 1 rfl) ?_
  refine r_get (pc := 2) hC hK hP ho_o1 (hc := rfl) (fun w h => wt_4 w h) 3 (by decide) m_3_8 (fun _ h => h) (v := .int (iv (G 6 i.toNat))) rfl dX4_clash_2 ?_
  refine c_callV (pc := 5) (y := yX4_patternAt) (As := [.int (iv (G 6 i.toNat))]) (rest := []) hC hE hP hD hS hl.1 (c_R_patternAtN l ε ws x n G hR hN (G 6 i.toNat) ⟨by omega, by omega⟩) m_3_9 m_3_10 m_3_11 m_0_2 m_3_12 hx0 rfl hd_yX4_patternAt rfl ⟨⟨by decide, by decide⟩, by decide, by decide⟩ (Nat.le_of_ble_eq_true rfl) rfl dX4_clash_5 kxN (fun v ws1 H locs hq hP hD hS => ?_)
  obtain ⟨⟨al_k3, hc_k3, hr_k3, hv_⟩, hw_⟩ := hq
  rw [hw_] at hP hD
  rw [hv_]
  clear hv_ hw_
  dsimp only [Option.toList, List.cons_append, List.nil_append]
  obtain ⟨p_o4, l_o4, y_o4, -, -, ho_o4, -⟩ := id hr_k3
  refine lv_aload_n (pc := 8) hx hb dX4_clash_8 rfl (lv_at hl 0 rfl) ?_
  refine lv_aload_n (pc := 9) hx hb dX4_clash_9 rfl (lv_at hl 2 rfl) ?_
  refine r_get (pc := 10) hC hK hP ho_o2 (hc := rfl) (fun w h => wt_4 w h) 3 (by decide) m_3_8 (fun _ h => h) (v := .int (iv (G 6 k.toNat))) rfl dX4_clash_10 ?_
  refine c_callV (pc := 13) (y := yX4_patternAt) (As := [.int (iv (G 6 k.toNat))]) (rest := [.ref al_k3]) hC hE hP hD hS hl.1 (c_R_patternAtN l ε ws x n G hR hN (G 6 k.toNat) ⟨by omega, by omega⟩) m_3_9 m_3_10 m_3_11 m_0_2 m_3_12 hx0 rfl hd_yX4_patternAt rfl ⟨⟨by decide, by decide⟩, by decide, by decide⟩ (Nat.le_of_ble_eq_true rfl) rfl dX4_clash_13 kxN (fun v ws1 H locs hq hP hD hS => ?_)
  obtain ⟨⟨al_k5, hc_k5, hr_k5, hv_⟩, hw_⟩ := hq
  rw [hw_] at hP hD
  rw [hv_]
  clear hv_ hw_
  dsimp only [Option.toList, List.cons_append, List.nil_append]
  obtain ⟨p_o6, l_o6, y_o6, -, -, ho_o6, -⟩ := id hr_k5
  refine c_callV (pc := 16) (y := yX3_hasPhasesOf) (As := [.ref al_k5]) (rest := []) hC hE hP hD hS hl.1 (c_P_phases l ε ws hr_k3 (hV.q (q := G 6 i.toNat) (by omega) (by omega)) hr_k5 (hV.q (q := G 6 k.toNat) (by omega) (by omega))) m_3_20 m_3_21 m_3_22 m_3_23 m_3_24 ho_o4 rfl hd_yX3_hasPhasesOf rfl ⟨⟨by decide, by decide⟩, by decide, by decide⟩ (Nat.le_of_ble_eq_true rfl) rfl dX4_clash_16 kxN (fun v ws1 H locs hq hP hD hS => ?_)
  rw [hq.2] at hP hD
  rw [hq.1]
  dsimp only [Option.toList, List.cons_append, List.nil_append]
  refine r_if_b0 (pc := 19) (b := tb (PH1 G (G 6 i.toNat) (G 6 k.toNat))) hx hb dX4_clash_19 (tgt := 34) (by decide)  (fun c_19 => ?_) (fun c_19 => ?_)
  · replace c_19 := tb_no c_19
    refine lv_iconst (pc := 34) (v := iv 0) hx hb dX4_clash_34 rfl ?_
    refine c_zret (pc := 35) hC hQ hP hD hS (by decide) (by decide) dX4_clash_35 nz_0 ?_
    exact ⟨congrArg (fun z => some (Value.int z)) (bz_0 (tb_f (fun z => c_19 z.1))), rfl⟩
  · replace c_19 := tb_iff.mp c_19
    refine lv_aload_n (pc := 22) hx hb dX4_clash_22 rfl (lv_at hl 1 rfl) ?_
    refine lv_aload_n (pc := 23) hx hb dX4_clash_23 rfl (lv_at hl 2 rfl) ?_
    refine c_callV (pc := 24) (y := yX1_placesSharedWith) (As := [.ref b]) (rest := []) hC hE hP hD hS hl.1 (c_L_shared l ε ws ha hk9) m_4_5 m_4_6 m_4_7 m_4_8 m_4_9 ho_o1 rfl hd_yX1_placesSharedWith rfl ⟨⟨by decide, by decide⟩, by decide, by decide⟩ (Nat.le_of_ble_eq_true rfl) rfl dX4_clash_24 kxN (fun v ws1 H locs hq hP hD hS => ?_)
    rw [hq.2] at hP hD
    rw [hq.1]
    dsimp only [Option.toList, List.cons_append, List.nil_append]
    refine r_if_le (pc := 27) (a := SH1 G i k) hx hb dX4_clash_27 (tgt := 34) (by decide) ⟨by omega, by omega⟩ (fun c_27 => ?_) (fun c_27 => ?_)
    · have c_27_ := c_27
      refine lv_iconst (pc := 34) (v := iv 0) hx hb dX4_clash_34 rfl ?_
      refine c_zret (pc := 35) hC hQ hP hD hS (by decide) (by decide) dX4_clash_35 nz_0 ?_
      exact ⟨congrArg (fun z => some (Value.int z)) (bz_0 (tb_f (fun z => by have z1 := z.2; omega))), rfl⟩
    · have c_27_ := c_27
      refine lv_iconst (pc := 30) (v := iv 1) hx hb dX4_clash_30 rfl ?_
      refine lv_goto (pc := 31) (tgt := 35) hx hb dX4_clash_31 (by decide) ?_
      refine c_zret (pc := 35) hC hQ hP hD hS (by decide) (by decide) dX4_clash_35 nz_1 ?_
      exact ⟨congrArg (fun z => some (Value.int z)) (bz_1 (tb_t ⟨c_19, by omega⟩)), rfl⟩

abbrev rm_c_R_lackOf : Room := { frames := 1, cells := 0, slots := 0, locals := 30 }
set_option maxRecDepth 100000 in
set_option maxHeartbeats 4000000 in
theorem c_R_lackOf (l : Launch) (ε : EV) (ws : va_W) (x : Nat) (n : Nat → Int) (G : Nat → Nat → Int) (hR : RX (IN ws) ε x n G) (hN : NB n) (ch : Int) (a : Nat) (ha : CHAR (IN ws) ε G ch a) (hb9 : 0 ≤ G 12 ch.toNat ∧ G 12 ch.toNat ≤ 600) : CT l yX4_lackOf cX4_lackOf 2 (some .int) rm_c_R_lackOf ε [.ref x, .ref a] (ws) (fun v w => v = some (.int (iv (n 3 - G 12 ch.toNat))) ∧ w = ws) NX := by
  refine CT.intro (by decide +kernel) (Nat.le_of_ble_eq_true rfl) ?_
  intro p9 e9 s9 m9 a9 bl9 me9 c9 ls Q9 hC hE hP hD hl hQ
  have hx := hC.1
  have hb := hC.2.1
  have hK := hE.K
  have hS : WS ε s9.heap s9.heap [] := va_S.rf
  have hl : lv_has ls 2 [(0, .ref x), (1, .ref a)] := hl
  obtain ⟨H, hH⟩ : ∃ H, H = s9.heap := ⟨_, rfl⟩
  obtain ⟨locs, hlo⟩ : ∃ z : List Loc, z = [] := ⟨_, rfl⟩
  rw [← hH] at hP ⊢
  have hS : WS ε s9.heap H locs := by rw [hH, hlo]; exact hS
  rw [← hlo]
  clear hH hlo
  obtain ⟨dr, aP, aL, aT, aC, Dr, eP, eL, eT, eC, hx0, hxD, hlP, hlL, hlT, hlC, hpP, hpL, hpT, hpC⟩ := id hR
  have hnb := hN
  obtain ⟨mdP, edP, hoP, -⟩ := id hlP
  obtain ⟨mdL, edL, hoL, -⟩ := id hlL
  obtain ⟨mdT, edT, hoT, -⟩ := id hlT
  obtain ⟨mdC, edC, hoC, -⟩ := id hlC
  obtain ⟨p_o1, S_o1, ho_o1, hp_o1, hs_o1⟩ := id ha
  refine lv_aload_n (pc := 0) hx hb dX4_lackOf_0 rfl (lv_at hl 0 rfl) ?_
  refine r_get (pc := 1) hC hK hP hx0 (hc := rfl) (fun w h => wt_0 w h) 4 (by decide) m_1_2 (fun _ h => h) (v := .ref aT) rfl dX4_lackOf_1 ?_
  refine c_callV (pc := 4) (y := yJx4a65c_size_8abf5) (As := []) (rest := []) hC hE hP hD hS hl.1 (c_A_sizeL l ε ws hlT) m_2_3 m_2_4 m_2_5 m_0_24 m_2_6 hoT rfl hd_yJx4a65c_size_8abf5 rfl ⟨⟨by decide, by decide⟩, by decide, by decide⟩ (Nat.le_of_ble_eq_true rfl) rfl dX4_lackOf_4 kxN (fun v ws1 H locs hq hP hD hS => ?_)
  rw [hq.2] at hP hD
  rw [hq.1]
  dsimp only [Option.toList, List.cons_append, List.nil_append]
  refine lv_aload_n (pc := 7) hx hb dX4_lackOf_7 rfl (lv_at hl 1 rfl) ?_
  refine r_get (pc := 8) hC hK hP ho_o1 (hc := rfl) (fun w h => wt_6 w h) 1 (by decide) m_13_6 (fun _ h => h) (v := .int (iv (G 12 ch.toNat))) rfl dX4_lackOf_8 ?_
  refine r_isub (pc := 11) (a := n 3) (b := G 12 ch.toNat) hx hb dX4_lackOf_11 ?_
  refine c_iret (pc := 12) hC hQ hP hD hS (by decide) (by decide) dX4_lackOf_12 ?_
  exact ⟨rfl, rfl⟩

abbrev rm_c_R_lookAt : Room := { frames := 5, cells := 0, slots := 0, locals := 150 }
set_option maxRecDepth 100000 in
set_option maxHeartbeats 4000000 in
theorem c_R_lookAt (l : Launch) (ε : EV) (ws : va_W) (x : Nat) (n : Nat → Int) (G : Nat → Nat → Int) (hR : RX (IN ws) ε x n G) (hN : NB n) (hV : VPat n G) (hL : VLam n G) (a : Nat) (i : Int) (hi : 0 ≤ i ∧ i < n 2) (ha : LAMR (IN ws) ε G i a) (fr many : Int) (hf : 0 ≤ fr ∧ fr ≤ 1000) (hm : 1 ≤ many ∧ many ≤ 60) : CT l yX4_lookAt cX4_lookAt 7 (some .long) rm_c_R_lookAt ε [.ref x, .ref a, .int (iv fr), .int (iv many)] (ws) (fun v w => v = some (.long (jv (BW (LK1 G i fr) many.toNat))) ∧ w = ws) NX := by
  refine CT.intro (by decide +kernel) (Nat.le_of_ble_eq_true rfl) ?_
  intro p9 e9 s9 m9 a9 bl9 me9 c9 ls Q9 hC hE hP hD hl hQ
  have hx := hC.1
  have hb := hC.2.1
  have hK := hE.K
  have hS : WS ε s9.heap s9.heap [] := va_S.rf
  have hl : lv_has ls 7 [(0, .ref x), (1, .ref a), (2, .int (iv fr)), (3, .int (iv many))] := hl
  obtain ⟨H, hH⟩ : ∃ H, H = s9.heap := ⟨_, rfl⟩
  obtain ⟨locs, hlo⟩ : ∃ z : List Loc, z = [] := ⟨_, rfl⟩
  rw [← hH] at hP ⊢
  have hS : WS ε s9.heap H locs := by rw [hH, hlo]; exact hS
  rw [← hlo]
  clear hH hlo
  obtain ⟨dr, aP, aL, aT, aC, Dr, eP, eL, eT, eC, hx0, hxD, hlP, hlL, hlT, hlC, hpP, hpL, hpT, hpC⟩ := id hR
  have hnb := hN
  obtain ⟨mdP, edP, hoP, -⟩ := id hlP
  obtain ⟨mdL, edL, hoL, -⟩ := id hlL
  obtain ⟨mdT, edT, hoT, -⟩ := id hlT
  obtain ⟨mdC, edC, hoC, -⟩ := id hlC
  obtain ⟨s_o1, -, ho_o1, -⟩ := ha.obj
  refine lv_lconst (pc := 0) (v := jv 0) hx hb dX4_lookAt_0 (by decide) ?_
  refine lv_lstore (lv' := [(4, .long (jv 0)), (0, .ref x), (1, .ref a), (2, .int (iv fr)), (3, .int (iv many))]) (pc := 1) hx hb dX4_lookAt_1 hl (by decide) rfl (fun ls hl => ?_)
  refine lv_iconst (pc := 3) (v := iv 0) hx hb dX4_lookAt_3 rfl ?_
  refine lv_istore (lv' := [(6, .int (iv 0)), (4, .long (jv 0)), (0, .ref x), (1, .ref a), (2, .int (iv fr)), (3, .int (iv many))]) (pc := 4) hx hb dX4_lookAt_4 hl (by decide) rfl (fun ls hl => ?_)
  have lp_6 : ∀ (k9 : Nat) (wd : Int) (k : Int) (hk : 0 ≤ k ∧ k ≤ many) (hw9 : wd = BW (LK1 G i fr) k.toNat) , ((many - k).toNat) < k9 → ∀ (H : Heap) (locs : List Loc) (ls : Array Slot), WP ε (ws) H → WD ε (ws) → WS ε s9.heap H locs → lv_has ls 7 [(0, .ref x), (1, .ref a), (2, .int (iv fr)), (3, .int (iv many)), (4, .long (jv wd)), (6, .int (iv k))] → W p9 l e9 rm_c_R_lookAt s9 m9 a9 bl9 me9 c9 H locs 0 0 Q9 (F0 m9 6 ls []) := by
    intro k9
    induction k9 with
    | zero => intro wd k hk hw9 h9; exact absurd h9 (Nat.not_lt_zero _)
    | succ k9 ih_6 =>
      intro wd k hk hw9 h9 H locs ls hP hD hS hl
      refine lv_iload (pc := 6) hx hb dX4_lookAt_6 (lv_at hl 5 rfl) ?_
      refine lv_iload_n (pc := 8) hx hb dX4_lookAt_8 rfl (lv_at hl 3 rfl) ?_
      refine r_icmp_ge (pc := 9) (a := k) (b := many) hx hb dX4_lookAt_9 (tgt := 39) (by decide) ⟨by omega, by omega⟩ ⟨by omega, by omega⟩ (fun c_9 => ?_) (fun c_9 => ?_)
      · have c_9_ := c_9
        refine lv_lload (pc := 39) hx hb dX4_lookAt_39 (lv_at hl 4 rfl) ?_
        refine c_lret (pc := 41) hC hQ hP hD hS (by decide) (by decide) dX4_lookAt_41 ?_
        exact ⟨congrArg (fun z => some (Value.long (jv z))) (by rw [hw9, show k = many by omega]), rfl⟩
      · have c_9_ := c_9
        refine lv_aload_n (pc := 12) hx hb dX4_lookAt_12 rfl (lv_at hl 0 rfl) ?_
        refine lv_aload_n (pc := 13) hx hb dX4_lookAt_13 rfl (lv_at hl 1 rfl) ?_
        refine lv_iload_n (pc := 14) hx hb dX4_lookAt_14 rfl (lv_at hl 2 rfl) ?_
        refine lv_iload (pc := 15) hx hb dX4_lookAt_15 (lv_at hl 5 rfl) ?_
        refine r_iadd (pc := 17) (a := fr) (b := k) hx hb dX4_lookAt_17 ?_
        refine c_callV (pc := 18) (y := yX4_isLit) (As := [.ref a, .int (iv (fr + k))]) (rest := []) hC hE hP hD hS hl.1 (c_R_isLit l ε ws x n G hR hN hV hL a (i) ⟨by omega, by omega⟩ ha (fr + k) ⟨by omega, by omega⟩) m_11_1 m_11_2 m_11_3 m_0_2 m_11_4 hx0 rfl hd_yX4_isLit rfl ⟨⟨by decide, by decide⟩, by decide, by decide⟩ (Nat.le_of_ble_eq_true rfl) rfl dX4_lookAt_18 kxN (fun v ws1 H locs hq hP hD hS => ?_)
        rw [hq.2] at hP hD
        rw [hq.1]
        dsimp only [Option.toList, List.cons_append, List.nil_append]
        refine r_if_b0 (pc := 21) (b := ON G i (fr + k)) hx hb dX4_lookAt_21 (tgt := 33) (by decide)  (fun c_21 => ?_) (fun c_21 => ?_)
        · have c_21_ := c_21
          refine lv_iinc (v := iv (k + 1)) (lv' := [(6, .int (iv (k + 1))), (0, .ref x), (1, .ref a), (2, .int (iv fr)), (3, .int (iv many)), (4, .long (jv wd))]) (pc := 33) hx hb dX4_lookAt_33 hl (k := 5) rfl (iv_add _ _) (by decide) rfl (fun ls hl => ?_)
          refine lv_goto (pc := 36) (tgt := 6) hx hb dX4_lookAt_36 (by decide) ?_
          exact ih_6 wd (k + 1) (by omega) (by rw [BW.succ hk.1, hw9, if_neg (by rw [tb_f (show ¬ LK1 G i fr k from by unfold LK1; rw [c_21]; exact Bool.false_ne_true)]; exact Bool.false_ne_true), Int.add_zero]) (by omega) _ _ _ hP hD hS (lv_sub hl [1, 2, 3, 4, 5, 0] rfl)
        · have c_21_ := c_21
          have hlo9 : 0 ≤ wd ∧ wd < 2 ^ k.toNat := by rw [hw9]; exact BW.bd _ _
          refine lv_lload (pc := 24) hx hb dX4_lookAt_24 (lv_at hl 4 rfl) ?_
          refine lv_lconst (pc := 26) (v := jv 1) hx hb dX4_lookAt_26 (by decide) ?_
          refine lv_iload (pc := 27) hx hb dX4_lookAt_27 (lv_at hl 5 rfl) ?_
          refine lv_lshl (pc := 29) (x := jv 1) (y := iv k) (v := jv (2 ^ k.toNat)) hx hb dX4_lookAt_29 (jv_shl ⟨by omega, by omega⟩) ?_
          refine lv_lor (pc := 30) (x := jv wd) (y := jv (2 ^ k.toNat)) hx hb dX4_lookAt_30 ?_
          rw [jv_or hlo9.1 ⟨by omega, by omega⟩ hlo9.2]
          refine lv_lstore (lv' := [(4, .long (jv (wd + 2 ^ k.toNat))), (0, .ref x), (1, .ref a), (2, .int (iv fr)), (3, .int (iv many)), (6, .int (iv k))]) (pc := 31) hx hb dX4_lookAt_31 hl (by decide) rfl (fun ls hl => ?_)
          refine lv_iinc (v := iv (k + 1)) (lv' := [(6, .int (iv (k + 1))), (4, .long (jv (wd + 2 ^ k.toNat))), (0, .ref x), (1, .ref a), (2, .int (iv fr)), (3, .int (iv many))]) (pc := 33) hx hb dX4_lookAt_33 hl (k := 5) rfl (iv_add _ _) (by decide) rfl (fun ls hl => ?_)
          refine lv_goto (pc := 36) (tgt := 6) hx hb dX4_lookAt_36 (by decide) ?_
          exact ih_6 (wd + 2 ^ k.toNat) (k + 1) (by omega) (by rw [BW.succ hk.1, hw9, if_pos (tb_t (show LK1 G i fr k from c_21))]) (by omega) _ _ _ hP hD hS (lv_sub hl [2, 3, 4, 5, 1, 0] rfl)
  exact lp_6 _ 0 0 (by omega) rfl (Nat.lt_succ_self _) _ _ _ hP hD hS (lv_sub hl [2, 3, 4, 5, 1, 0] rfl)
