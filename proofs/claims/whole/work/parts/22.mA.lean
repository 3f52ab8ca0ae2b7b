abbrev rm_c_m_isIn : Room := { frames := 0, cells := 0, slots := 0, locals := 0 }
set_option maxRecDepth 100000 in
set_option maxHeartbeats 4000000 in
theorem c_m_isIn (l : Launch) (ε : EV) (ws : va_W) (a b c : Int) (ha : rg a) (hb9 : rg b) (hc9 : rg c) : CT l yX5_isIn cX5_isIn 3 (some .boolean) rm_c_m_isIn ε [.int (iv a), .int (iv b), .int (iv c)] (ws) (fun v w => v = some (.int (iv (bz (decide (b ≤ a ∧ a ≤ c))))) ∧ w = ws) NX := by
  refine CT.intro (by decide +kernel) (Nat.le_of_ble_eq_true rfl) ?_
  intro p9 e9 s9 m9 a9 bl9 me9 c9 ls Q9 hC hE hP hD hl hQ
  have hx := hC.1
  have hb := hC.2.1
  have hK := hE.K
  have hS : WS ε s9.heap s9.heap [] := va_S.rf
  have hl : lv_has ls 3 [(0, .int (iv a)), (1, .int (iv b)), (2, .int (iv c))] := hl
  obtain ⟨H, hH⟩ : ∃ H, H = s9.heap := ⟨_, rfl⟩
  obtain ⟨locs, hlo⟩ : ∃ z : List Loc, z = [] := ⟨_, rfl⟩
  rw [← hH] at hP ⊢
  have hS : WS ε s9.heap H locs := by rw [hH, hlo]; exact hS
  rw [← hlo]
  clear hH hlo
  refine lv_iload_n (pc := 0) hx hb dX5_isIn_0 rfl (lv_at hl 0 rfl) ?_
  refine lv_iload_n (pc := 1) hx hb dX5_isIn_1 rfl (lv_at hl 1 rfl) ?_
  refine r_icmp_lt (pc := 2) (a := a) (b := b) hx hb dX5_isIn_2 (tgt := 14) (by decide) ⟨by omega, by omega⟩ ⟨by omega, by omega⟩ (fun c_2 => ?_) (fun c_2 => ?_)
  · have c_2_ := c_2
    refine lv_iconst (pc := 14) (v := iv 0) hx hb dX5_isIn_14 rfl ?_
    refine c_zret (pc := 15) hC hQ hP hD hS (by decide) (by decide) dX5_isIn_15 nz_0 ?_
    exact ⟨congrArg (fun z => some (Value.int z)) (bz_0 (decide_eq_false (by omega))), rfl⟩
  · have c_2_ := c_2
    refine lv_iload_n (pc := 5) hx hb dX5_isIn_5 rfl (lv_at hl 0 rfl) ?_
    refine lv_iload_n (pc := 6) hx hb dX5_isIn_6 rfl (lv_at hl 2 rfl) ?_
    refine r_icmp_gt (pc := 7) (a := a) (b := c) hx hb dX5_isIn_7 (tgt := 14) (by decide) ⟨by omega, by omega⟩ ⟨by omega, by omega⟩ (fun c_7 => ?_) (fun c_7 => ?_)
    · have c_7_ := c_7
      refine lv_iconst (pc := 14) (v := iv 0) hx hb dX5_isIn_14 rfl ?_
      refine c_zret (pc := 15) hC hQ hP hD hS (by decide) (by decide) dX5_isIn_15 nz_0 ?_
      exact ⟨congrArg (fun z => some (Value.int z)) (bz_0 (decide_eq_false (by omega))), rfl⟩
    · have c_7_ := c_7
      refine lv_iconst (pc := 10) (v := iv 1) hx hb dX5_isIn_10 rfl ?_
      refine lv_goto (pc := 11) (tgt := 15) hx hb dX5_isIn_11 (by decide) ?_
      refine c_zret (pc := 15) hC hQ hP hD hS (by decide) (by decide) dX5_isIn_15 nz_1 ?_
      exact ⟨congrArg (fun z => some (Value.int z)) (bz_1 (decide_eq_true (by omega))), rfl⟩

abbrev rm_c_m_isPattern : Room := { frames := 1, cells := 0, slots := 0, locals := 22 }
set_option maxRecDepth 100000 in
set_option maxHeartbeats 4000000 in
theorem c_m_isPattern (l : Launch) (ε : EV) (m0 : Nat) (ad : Nat → Nat) (n : Nat → Int) (G : Nat → Nat → Int) (R : va_W) (a : Int) (ha : rg a) (hn : 0 ≤ n 1 ∧ n 1 ≤ 100) : CT l yX5_isPattern cX5_isPattern 2 (some .boolean) rm_c_m_isPattern ε [.ref m0, .int (iv a)] (wM ε m0 ad n G ++ R) (fun v w => v = some (.int (iv (bz (decide (0 ≤ a ∧ a < n 1))))) ∧ w = wM ε m0 ad n G ++ R) NX := by
  refine CT.intro (by decide +kernel) (Nat.le_of_ble_eq_true rfl) ?_
  intro p9 e9 s9 m9 a9 bl9 me9 c9 ls Q9 hC hE hP hD hl hQ
  have hx := hC.1
  have hb := hC.2.1
  have hK := hE.K
  have hS : WS ε s9.heap s9.heap [] := va_S.rf
  have hl : lv_has ls 2 [(0, .ref m0), (1, .int (iv a))] := hl
  obtain ⟨H, hH⟩ : ∃ H, H = s9.heap := ⟨_, rfl⟩
  obtain ⟨locs, hlo⟩ : ∃ z : List Loc, z = [] := ⟨_, rfl⟩
  rw [← hH] at hP ⊢
  have hS : WS ε s9.heap H locs := by rw [hH, hlo]; exact hS
  rw [← hlo]
  clear hH hlo
  refine lv_iload_n (pc := 0) hx hb dX5_isPattern_0 rfl (lv_at hl 1 rfl) ?_
  refine lv_iconst (pc := 1) (v := iv 0) hx hb dX5_isPattern_1 rfl ?_
  refine lv_aload_n (pc := 2) hx hb dX5_isPattern_2 rfl (lv_at hl 0 rfl) ?_
  refine r_get (pc := 3) hC hK hP wM_o (hc := rfl) (fun w h => wt_1 w h) 2 (by decide) m_7_6 (fun _ h => h) (v := .int (iv (n 1))) rfl dX5_isPattern_3 ?_
  refine lv_iconst (pc := 6) (v := iv 1) hx hb dX5_isPattern_6 rfl ?_
  refine r_isub (pc := 7) (a := n 1) (b := 1) hx hb dX5_isPattern_7 ?_
  refine c_callS (pc := 8) (y := yX5_isIn) (As := [.int (iv a), .int (iv 0), .int (iv ((n 1) - 1))]) (rest := []) hC hE hP hD hS hl.1 (c_m_isIn l ε (wM ε m0 ad n G ++ R) (a) (0) ((n 1) - 1) ⟨by omega, by omega⟩ ⟨by omega, by omega⟩ ⟨by omega, by omega⟩) m_3_5 m_3_6 m_0_5 m_3_7 hd_yX5_isIn rfl ⟨⟨by decide, by decide⟩, by decide, by decide⟩ (Nat.le_of_ble_eq_true rfl) rfl dX5_isPattern_8 kxN (fun v ws1 H locs hq hP hD hS => ?_)
  rw [hq.2] at hP hD
  rw [hq.1]
  dsimp only [Option.toList, List.cons_append, List.nil_append]
  refine c_zret (pc := 11) hC hQ hP hD hS (by decide) (by decide) dX5_isPattern_11 (nz_b _) ?_
  exact ⟨congrArg (fun z => some (Value.int (iv (bz z)))) (decide_eq_decide.mpr (by omega)), rfl⟩

abbrev rm_c_m_isLamp : Room := { frames := 1, cells := 0, slots := 0, locals := 22 }
set_option maxRecDepth 100000 in
set_option maxHeartbeats 4000000 in
theorem c_m_isLamp (l : Launch) (ε : EV) (m0 : Nat) (ad : Nat → Nat) (n : Nat → Int) (G : Nat → Nat → Int) (R : va_W) (a : Int) (ha : rg a) (hn : 0 ≤ n 2 ∧ n 2 ≤ 100) : CT l yX5_isLamp cX5_isLamp 2 (some .boolean) rm_c_m_isLamp ε [.ref m0, .int (iv a)] (wM ε m0 ad n G ++ R) (fun v w => v = some (.int (iv (bz (decide (0 ≤ a ∧ a < n 2))))) ∧ w = wM ε m0 ad n G ++ R) NX := by
  refine CT.intro (by decide +kernel) (Nat.le_of_ble_eq_true rfl) ?_
  intro p9 e9 s9 m9 a9 bl9 me9 c9 ls Q9 hC hE hP hD hl hQ
  have hx := hC.1
  have hb := hC.2.1
  have hK := hE.K
  have hS : WS ε s9.heap s9.heap [] := va_S.rf
  have hl : lv_has ls 2 [(0, .ref m0), (1, .int (iv a))] := hl
  obtain ⟨H, hH⟩ : ∃ H, H = s9.heap := ⟨_, rfl⟩
  obtain ⟨locs, hlo⟩ : ∃ z : List Loc, z = [] := ⟨_, rfl⟩
  rw [← hH] at hP ⊢
  have hS : WS ε s9.heap H locs := by rw [hH, hlo]; exact hS
  rw [← hlo]
  clear hH hlo
  refine lv_iload_n (pc := 0) hx hb dX5_isLamp_0 rfl (lv_at hl 1 rfl) ?_
  refine lv_iconst (pc := 1) (v := iv 0) hx hb dX5_isLamp_1 rfl ?_
  refine lv_aload_n (pc := 2) hx hb dX5_isLamp_2 rfl (lv_at hl 0 rfl) ?_
  refine r_get (pc := 3) hC hK hP wM_o (hc := rfl) (fun w h => wt_1 w h) 6 (by decide) m_13_22 (fun _ h => h) (v := .int (iv (n 2))) rfl dX5_isLamp_3 ?_
  refine lv_iconst (pc := 6) (v := iv 1) hx hb dX5_isLamp_6 rfl ?_
  refine r_isub (pc := 7) (a := n 2) (b := 1) hx hb dX5_isLamp_7 ?_
  refine c_callS (pc := 8) (y := yX5_isIn) (As := [.int (iv a), .int (iv 0), .int (iv ((n 2) - 1))]) (rest := []) hC hE hP hD hS hl.1 (c_m_isIn l ε (wM ε m0 ad n G ++ R) (a) (0) ((n 2) - 1) ⟨by omega, by omega⟩ ⟨by omega, by omega⟩ ⟨by omega, by omega⟩) m_3_5 m_3_6 m_0_5 m_3_7 hd_yX5_isIn rfl ⟨⟨by decide, by decide⟩, by decide, by decide⟩ (Nat.le_of_ble_eq_true rfl) rfl dX5_isLamp_8 kxN (fun v ws1 H locs hq hP hD hS => ?_)
  rw [hq.2] at hP hD
  rw [hq.1]
  dsimp only [Option.toList, List.cons_append, List.nil_append]
  refine c_zret (pc := 11) hC hQ hP hD hS (by decide) (by decide) dX5_isLamp_11 (nz_b _) ?_
  exact ⟨congrArg (fun z => some (Value.int (iv (bz z)))) (decide_eq_decide.mpr (by omega)), rfl⟩

abbrev rm_c_m_isChart : Room := { frames := 1, cells := 0, slots := 0, locals := 22 }
set_option maxRecDepth 100000 in
set_option maxHeartbeats 4000000 in
theorem c_m_isChart (l : Launch) (ε : EV) (m0 : Nat) (ad : Nat → Nat) (n : Nat → Int) (G : Nat → Nat → Int) (R : va_W) (a : Int) (ha : rg a) (hn : 0 ≤ n 4 ∧ n 4 ≤ 100) : CT l yX5_isChart cX5_isChart 2 (some .boolean) rm_c_m_isChart ε [.ref m0, .int (iv a)] (wM ε m0 ad n G ++ R) (fun v w => v = some (.int (iv (bz (decide (0 ≤ a ∧ a < n 4))))) ∧ w = wM ε m0 ad n G ++ R) NX := by
  refine CT.intro (by decide +kernel) (Nat.le_of_ble_eq_true rfl) ?_
  intro p9 e9 s9 m9 a9 bl9 me9 c9 ls Q9 hC hE hP hD hl hQ
  have hx := hC.1
  have hb := hC.2.1
  have hK := hE.K
  have hS : WS ε s9.heap s9.heap [] := va_S.rf
  have hl : lv_has ls 2 [(0, .ref m0), (1, .int (iv a))] := hl
  obtain ⟨H, hH⟩ : ∃ H, H = s9.heap := ⟨_, rfl⟩
  obtain ⟨locs, hlo⟩ : ∃ z : List Loc, z = [] := ⟨_, rfl⟩
  rw [← hH] at hP ⊢
  have hS : WS ε s9.heap H locs := by rw [hH, hlo]; exact hS
  rw [← hlo]
  clear hH hlo
  refine lv_iload_n (pc := 0) hx hb dX5_isChart_0 rfl (lv_at hl 1 rfl) ?_
  refine lv_iconst (pc := 1) (v := iv 0) hx hb dX5_isChart_1 rfl ?_
  refine lv_aload_n (pc := 2) hx hb dX5_isChart_2 rfl (lv_at hl 0 rfl) ?_
  refine r_get (pc := 3) hC hK hP wM_o (hc := rfl) (fun w h => wt_1 w h) 16 (by decide) m_21_3 (fun _ h => h) (v := .int (iv (n 4))) rfl dX5_isChart_3 ?_
  refine lv_iconst (pc := 6) (v := iv 1) hx hb dX5_isChart_6 rfl ?_
  refine r_isub (pc := 7) (a := n 4) (b := 1) hx hb dX5_isChart_7 ?_
  refine c_callS (pc := 8) (y := yX5_isIn) (As := [.int (iv a), .int (iv 0), .int (iv ((n 4) - 1))]) (rest := []) hC hE hP hD hS hl.1 (c_m_isIn l ε (wM ε m0 ad n G ++ R) (a) (0) ((n 4) - 1) ⟨by omega, by omega⟩ ⟨by omega, by omega⟩ ⟨by omega, by omega⟩) m_3_5 m_3_6 m_0_5 m_3_7 hd_yX5_isIn rfl ⟨⟨by decide, by decide⟩, by decide, by decide⟩ (Nat.le_of_ble_eq_true rfl) rfl dX5_isChart_8 kxN (fun v ws1 H locs hq hP hD hS => ?_)
  rw [hq.2] at hP hD
  rw [hq.1]
  dsimp only [Option.toList, List.cons_append, List.nil_append]
  refine c_zret (pc := 11) hC hQ hP hD hS (by decide) (by decide) dX5_isChart_11 (nz_b _) ?_
  exact ⟨congrArg (fun z => some (Value.int (iv (bz z)))) (decide_eq_decide.mpr (by omega)), rfl⟩

abbrev rm_c_m_isPlace : Room := { frames := 1, cells := 0, slots := 0, locals := 22 }
set_option maxRecDepth 100000 in
set_option maxHeartbeats 4000000 in
theorem c_m_isPlace (l : Launch) (ε : EV) (ws : va_W) (a b : Int) (ha : rg a) (hb9 : rg b) : CT l yX5_isPlace cX5_isPlace 2 (some .boolean) rm_c_m_isPlace ε [.int (iv a), .int (iv b)] (ws) (fun v w => v = some (.int (iv (bz (decide ((0 ≤ a ∧ a ≤ 31) ∧ 0 ≤ b ∧ b ≤ 31))))) ∧ w = ws) NX := by
  refine CT.intro (by decide +kernel) (Nat.le_of_ble_eq_true rfl) ?_
  intro p9 e9 s9 m9 a9 bl9 me9 c9 ls Q9 hC hE hP hD hl hQ
  have hx := hC.1
  have hb := hC.2.1
  have hK := hE.K
  have hS : WS ε s9.heap s9.heap [] := va_S.rf
  have hl : lv_has ls 2 [(0, .int (iv a)), (1, .int (iv b))] := hl
  obtain ⟨H, hH⟩ : ∃ H, H = s9.heap := ⟨_, rfl⟩
  obtain ⟨locs, hlo⟩ : ∃ z : List Loc, z = [] := ⟨_, rfl⟩
  rw [← hH] at hP ⊢
  have hS : WS ε s9.heap H locs := by rw [hH, hlo]; exact hS
  rw [← hlo]
  clear hH hlo
  refine lv_iload_n (pc := 0) hx hb dX5_isPlace_0 rfl (lv_at hl 0 rfl) ?_
  refine lv_iconst (pc := 1) (v := iv 0) hx hb dX5_isPlace_1 rfl ?_
  refine lv_bipush (pc := 2) (v := iv 31) hx hb dX5_isPlace_2 (by decide) ?_
  refine c_callS (pc := 4) (y := yX5_isIn) (As := [.int (iv a), .int (iv 0), .int (iv 31)]) (rest := []) hC hE hP hD hS hl.1 (c_m_isIn l ε (ws) (a) (0) (31) ⟨by omega, by omega⟩ ⟨by omega, by omega⟩ ⟨by omega, by omega⟩) m_3_5 m_3_6 m_0_5 m_3_7 hd_yX5_isIn rfl ⟨⟨by decide, by decide⟩, by decide, by decide⟩ (Nat.le_of_ble_eq_true rfl) rfl dX5_isPlace_4 kxN (fun v ws1 H locs hq hP hD hS => ?_)
  rw [hq.2] at hP hD
  rw [hq.1]
  dsimp only [Option.toList, List.cons_append, List.nil_append]
  refine r_if_b0 (pc := 7) (b := decide (0 ≤ a ∧ a ≤ 31)) hx hb dX5_isPlace_7 (tgt := 24) (by decide)  (fun c_7 => ?_) (fun c_7 => ?_)
  · replace c_7 := of_decide_eq_false c_7
    refine lv_iconst (pc := 24) (v := iv 0) hx hb dX5_isPlace_24 rfl ?_
    refine c_zret (pc := 25) hC hQ hP hD hS (by decide) (by decide) dX5_isPlace_25 nz_0 ?_
    exact ⟨congrArg (fun z => some (Value.int z)) (bz_0 (decide_eq_false (by omega))), rfl⟩
  · replace c_7 := of_decide_eq_true c_7
    refine lv_iload_n (pc := 10) hx hb dX5_isPlace_10 rfl (lv_at hl 1 rfl) ?_
    refine lv_iconst (pc := 11) (v := iv 0) hx hb dX5_isPlace_11 rfl ?_
    refine lv_bipush (pc := 12) (v := iv 31) hx hb dX5_isPlace_12 (by decide) ?_
    refine c_callS (pc := 14) (y := yX5_isIn) (As := [.int (iv b), .int (iv 0), .int (iv 31)]) (rest := []) hC hE hP hD hS hl.1 (c_m_isIn l ε (ws) (b) (0) (31) ⟨by omega, by omega⟩ ⟨by omega, by omega⟩ ⟨by omega, by omega⟩) m_3_5 m_3_6 m_0_5 m_3_7 hd_yX5_isIn rfl ⟨⟨by decide, by decide⟩, by decide, by decide⟩ (Nat.le_of_ble_eq_true rfl) rfl dX5_isPlace_14 kxN (fun v ws1 H locs hq hP hD hS => ?_)
    rw [hq.2] at hP hD
    rw [hq.1]
    dsimp only [Option.toList, List.cons_append, List.nil_append]
    refine r_if_b0 (pc := 17) (b := decide (0 ≤ b ∧ b ≤ 31)) hx hb dX5_isPlace_17 (tgt := 24) (by decide)  (fun c_17 => ?_) (fun c_17 => ?_)
    · replace c_17 := of_decide_eq_false c_17
      refine lv_iconst (pc := 24) (v := iv 0) hx hb dX5_isPlace_24 rfl ?_
      refine c_zret (pc := 25) hC hQ hP hD hS (by decide) (by decide) dX5_isPlace_25 nz_0 ?_
      exact ⟨congrArg (fun z => some (Value.int z)) (bz_0 (decide_eq_false (by omega))), rfl⟩
    · replace c_17 := of_decide_eq_true c_17
      refine lv_iconst (pc := 20) (v := iv 1) hx hb dX5_isPlace_20 rfl ?_
      refine lv_goto (pc := 21) (tgt := 25) hx hb dX5_isPlace_21 (by decide) ?_
      refine c_zret (pc := 25) hC hQ hP hD hS (by decide) (by decide) dX5_isPlace_25 nz_1 ?_
      exact ⟨congrArg (fun z => some (Value.int z)) (bz_1 (decide_eq_true (by omega))), rfl⟩
