abbrev rm_c_J_checkIndex3 : Room := { frames := 0, cells := 0, slots := 0, locals := 0 }
set_option maxRecDepth 100000 in
set_option maxHeartbeats 4000000 in
theorem c_J_checkIndex3 (l : Launch) (ε : EV) (ws : va_W) (i n : Int) (hi : 0 ≤ i ∧ i < n) (rn : rg n) : CT l yJ3_checkIndex_8e157 cJ3_checkIndex_8e157 3 (some .int) rm_c_J_checkIndex3 ε [.int (iv i), .int (iv n), .null] (ws) (fun v w => v = some (.int (iv (i))) ∧ w = ws) NX := by
  refine CT.intro (by decide +kernel) (Nat.le_of_ble_eq_true rfl) ?_
  intro p9 e9 s9 m9 a9 bl9 me9 c9 ls Q9 hC hE hP hD hl hQ
  have hx := hC.1
  have hb := hC.2.1
  have hK := hE.K
  have hS : WS ε s9.heap s9.heap [] := va_S.rf
  have hl : lv_has ls 3 [(0, .int (iv i)), (1, .int (iv n)), (2, .null)] := hl
  obtain ⟨H, hH⟩ : ∃ H, H = s9.heap := ⟨_, rfl⟩
  obtain ⟨locs, hlo⟩ : ∃ z : List Loc, z = [] := ⟨_, rfl⟩
  rw [← hH] at hP ⊢
  have hS : WS ε s9.heap H locs := by rw [hH, hlo]; exact hS
  rw [← hlo]
  clear hH hlo
  refine lv_iload_n (pc := 0) hx hb dJ3_checkIndex_8e157_0 rfl (lv_at hl 0 rfl) ?_
  refine r_if_lt (pc := 1) (a := i) hx hb dJ3_checkIndex_8e157_1 (tgt := 9) (by decide) ⟨by omega, by omega⟩ (fun c_1 => ?_) (fun c_1 => ?_)
  · have c_1_ := c_1
    omega
  · have c_1_ := c_1
    refine lv_iload_n (pc := 4) hx hb dJ3_checkIndex_8e157_4 rfl (lv_at hl 0 rfl) ?_
    refine lv_iload_n (pc := 5) hx hb dJ3_checkIndex_8e157_5 rfl (lv_at hl 1 rfl) ?_
    refine r_icmp_lt (pc := 6) (a := i) (b := n) hx hb dJ3_checkIndex_8e157_6 (tgt := 16) (by decide) ⟨by omega, by omega⟩ ⟨by omega, by omega⟩ (fun c_6 => ?_) (fun c_6 => ?_)
    · have c_6_ := c_6
      refine lv_iload_n (pc := 16) hx hb dJ3_checkIndex_8e157_16 rfl (lv_at hl 0 rfl) ?_
      refine c_iret (pc := 17) hC hQ hP hD hS (by decide) (by decide) dJ3_checkIndex_8e157_17 ?_
      exact ⟨rfl, rfl⟩
    · have c_6_ := c_6
      omega

abbrev rm_c_J_checkIndex : Room := { frames := 1, cells := 0, slots := 0, locals := 30 }
set_option maxRecDepth 100000 in
set_option maxHeartbeats 4000000 in
theorem c_J_checkIndex (l : Launch) (ε : EV) (ws : va_W) (i n : Int) (hi : 0 ≤ i ∧ i < n) (rn : rg n) : CT l yJ15_checkIndex_7cf53 cJ15_checkIndex_7cf53 2 (some .int) rm_c_J_checkIndex ε [.int (iv i), .int (iv n)] (ws) (fun v w => v = some (.int (iv (i))) ∧ w = ws) NX := by
  refine CT.intro (by decide +kernel) (Nat.le_of_ble_eq_true rfl) ?_
  intro p9 e9 s9 m9 a9 bl9 me9 c9 ls Q9 hC hE hP hD hl hQ
  have hx := hC.1
  have hb := hC.2.1
  have hK := hE.K
  have hS : WS ε s9.heap s9.heap [] := va_S.rf
  have hl : lv_has ls 2 [(0, .int (iv i)), (1, .int (iv n))] := hl
  obtain ⟨H, hH⟩ : ∃ H, H = s9.heap := ⟨_, rfl⟩
  obtain ⟨locs, hlo⟩ : ∃ z : List Loc, z = [] := ⟨_, rfl⟩
  rw [← hH] at hP ⊢
  have hS : WS ε s9.heap H locs := by rw [hH, hlo]; exact hS
  rw [← hlo]
  clear hH hlo
  refine lv_iload_n (pc := 0) hx hb dJ15_checkIndex_7cf53_0 rfl (lv_at hl 0 rfl) ?_
  refine lv_iload_n (pc := 1) hx hb dJ15_checkIndex_7cf53_1 rfl (lv_at hl 1 rfl) ?_
  refine lv_null (pc := 2) hx hb dJ15_checkIndex_7cf53_2 ?_
  refine c_callS (pc := 3) (y := yJ3_checkIndex_8e157) (As := [.int (iv i), .int (iv n), .null]) (rest := []) hC hE hP hD hS hl.1 (c_J_checkIndex3 l ε (ws) (i) (n) hi rn) m_2_21 m_2_22 m_2_23 m_2_24 hd_yJ3_checkIndex_8e157 rfl ⟨⟨by decide, by decide⟩, by decide, by decide⟩ (Nat.le_of_ble_eq_true rfl) rfl dJ15_checkIndex_7cf53_3 kxN (fun v ws1 H locs hq hP hD hS => ?_)
  rw [hq.2] at hP hD
  rw [hq.1]
  dsimp only [Option.toList, List.cons_append, List.nil_append]
  refine c_iret (pc := 6) hC hQ hP hD hS (by decide) (by decide) dJ15_checkIndex_7cf53_6 ?_
  exact ⟨rfl, rfl⟩

abbrev rm_c_A_elementData : Room := { frames := 0, cells := 0, slots := 0, locals := 0 }
set_option maxRecDepth 100000 in
set_option maxHeartbeats 4000000 in
theorem c_A_elementData (l : Launch) (ε : EV) (ws : va_W) (al ed : Nat) (md n : Int) (cap : Nat) (g : Nat → Option Nat) (b : Nat) (hia : In ws al (oAL md ed n)) (hie : In ws ed (eO ε cap g)) (i : Int) (hi : 0 ≤ i ∧ i < n) (hn : n ≤ cap ∧ cap < 100000) (hg : g i.toNat = some b) : CT l yJx4a65c_elementData_915e3 cJx4a65c_elementData_915e3 2 (some (.object "java/lang/Object")) rm_c_A_elementData ε [.ref al, .int (iv i)] (ws) (fun v w => v = some (.ref b) ∧ w = ws) NX := by
  refine CT.intro (by decide +kernel) (Nat.le_of_ble_eq_true rfl) ?_
  intro p9 e9 s9 m9 a9 bl9 me9 c9 ls Q9 hC hE hP hD hl hQ
  have hx := hC.1
  have hb := hC.2.1
  have hK := hE.K
  have hS : WS ε s9.heap s9.heap [] := va_S.rf
  have hl : lv_has ls 2 [(0, .ref al), (1, .int (iv i))] := hl
  obtain ⟨H, hH⟩ : ∃ H, H = s9.heap := ⟨_, rfl⟩
  obtain ⟨locs, hlo⟩ : ∃ z : List Loc, z = [] := ⟨_, rfl⟩
  rw [← hH] at hP ⊢
  have hS : WS ε s9.heap H locs := by rw [hH, hlo]; exact hS
  rw [← hlo]
  clear hH hlo
  refine lv_aload_n (pc := 0) hx hb dJx4a65c_elementData_915e3_0 rfl (lv_at hl 0 rfl) ?_
  refine r_get (pc := 1) hC hK hP hia (hc := rfl) (fun w h => wt_2 w h) 1 (by decide) m_1_8 (fun _ h => h) (v := .ref ed) rfl dJx4a65c_elementData_915e3_1 ?_
  refine lv_iload_n (pc := 4) hx hb dJx4a65c_elementData_915e3_4 rfl (lv_at hl 1 rfl) ?_
  refine r_aald (pc := 5) (z := i) hC hK hP hie ⟨by omega, by omega, by omega⟩ dJx4a65c_elementData_915e3_5 ?_
  rw [show va_rf (g i.toNat) = .ref b by rw [hg]; rfl]
  refine c_aret (pc := 6) hC (Or.inl ⟨_, rfl⟩) (Or.inr ⟨_, rfl⟩) hQ hP hD hS (by decide) (by decide) dJx4a65c_elementData_915e3_6 ?_
  exact ⟨rfl, rfl⟩

abbrev rm_c_A_get : Room := { frames := 2, cells := 0, slots := 0, locals := 60 }
set_option maxRecDepth 100000 in
set_option maxHeartbeats 4000000 in
theorem c_A_get (l : Launch) (ε : EV) (ws : va_W) (al ed : Nat) (md n : Int) (cap : Nat) (g : Nat → Option Nat) (b : Nat) (hia : In ws al (oAL md ed n)) (hie : In ws ed (eO ε cap g)) (i : Int) (hi : 0 ≤ i ∧ i < n) (hn : n ≤ cap ∧ cap < 100000) (hg : g i.toNat = some b) : CT l yJx4a65c_get_915e3 cJx4a65c_get_915e3 2 (some (.object "java/lang/Object")) rm_c_A_get ε [.ref al, .int (iv i)] (ws) (fun v w => v = some (.ref b) ∧ w = ws) NX := by
  refine CT.intro (by decide +kernel) (Nat.le_of_ble_eq_true rfl) ?_
  intro p9 e9 s9 m9 a9 bl9 me9 c9 ls Q9 hC hE hP hD hl hQ
  have hx := hC.1
  have hb := hC.2.1
  have hK := hE.K
  have hS : WS ε s9.heap s9.heap [] := va_S.rf
  have hl : lv_has ls 2 [(0, .ref al), (1, .int (iv i))] := hl
  obtain ⟨H, hH⟩ : ∃ H, H = s9.heap := ⟨_, rfl⟩
  obtain ⟨locs, hlo⟩ : ∃ z : List Loc, z = [] := ⟨_, rfl⟩
  rw [← hH] at hP ⊢
  have hS : WS ε s9.heap H locs := by rw [hH, hlo]; exact hS
  rw [← hlo]
  clear hH hlo
  have rn : rg n := ⟨by omega, by omega⟩
  refine lv_iload_n (pc := 0) hx hb dJx4a65c_get_915e3_0 rfl (lv_at hl 1 rfl) ?_
  refine lv_aload_n (pc := 1) hx hb dJx4a65c_get_915e3_1 rfl (lv_at hl 0 rfl) ?_
  refine r_get (pc := 2) hC hK hP hia (hc := rfl) (fun w h => wt_2 w h) 2 (by decide) m_2_7 (fun _ h => h) (v := .int (iv n)) rfl dJx4a65c_get_915e3_2 ?_
  refine c_callS (pc := 5) (y := yJ15_checkIndex_7cf53) (As := [.int (iv i), .int (iv n)]) (rest := []) hC hE hP hD hS hl.1 (c_J_checkIndex l ε (ws) (i) (n) hi rn) m_2_17 m_2_18 m_2_19 m_2_20 hd_yJ15_checkIndex_7cf53 rfl ⟨⟨by decide, by decide⟩, by decide, by decide⟩ (Nat.le_of_ble_eq_true rfl) rfl dJx4a65c_get_915e3_5 kxN (fun v ws1 H locs hq hP hD hS => ?_)
  rw [hq.2] at hP hD
  rw [hq.1]
  dsimp only [Option.toList, List.cons_append, List.nil_append]
  refine lv_pop (pc := 8) hx hb dJx4a65c_get_915e3_8 rfl ?_
  refine lv_aload_n (pc := 9) hx hb dJx4a65c_get_915e3_9 rfl (lv_at hl 0 rfl) ?_
  refine lv_iload_n (pc := 10) hx hb dJx4a65c_get_915e3_10 rfl (lv_at hl 1 rfl) ?_
  refine c_callV (pc := 11) (y := yJx4a65c_elementData_915e3) (As := [.int (iv i)]) (rest := []) hC hE hP hD hS hl.1 (c_A_elementData l ε ws al ed md n cap g b hia hie i hi hn hg) m_3_0 m_3_1 m_3_2 m_0_24 m_3_3 hia rfl hd_yJx4a65c_elementData_915e3 rfl ⟨⟨by decide, by decide⟩, by decide, by decide⟩ (Nat.le_of_ble_eq_true rfl) rfl dJx4a65c_get_915e3_11 kxN (fun v ws1 H locs hq hP hD hS => ?_)
  rw [hq.2] at hP hD
  rw [hq.1]
  dsimp only [Option.toList, List.cons_append, List.nil_append]
  refine c_aret (pc := 14) hC (Or.inl ⟨_, rfl⟩) (Or.inr ⟨_, rfl⟩) hQ hP hD hS (by decide) (by decide) dJx4a65c_get_915e3_14 ?_
  exact ⟨rfl, rfl⟩

abbrev rm_c_A_size : Room := { frames := 0, cells := 0, slots := 0, locals := 0 }
set_option maxRecDepth 100000 in
set_option maxHeartbeats 4000000 in
theorem c_A_size (l : Launch) (ε : EV) (ws : va_W) (al ed : Nat) (md n : Int) (hia : In ws al (oAL md ed n)) : CT l yJx4a65c_size_8abf5 cJx4a65c_size_8abf5 1 (some .int) rm_c_A_size ε [.ref al] (ws) (fun v w => v = some (.int (iv (n))) ∧ w = ws) NX := by
  refine CT.intro (by decide +kernel) (Nat.le_of_ble_eq_true rfl) ?_
  intro p9 e9 s9 m9 a9 bl9 me9 c9 ls Q9 hC hE hP hD hl hQ
  have hx := hC.1
  have hb := hC.2.1
  have hK := hE.K
  have hS : WS ε s9.heap s9.heap [] := va_S.rf
  have hl : lv_has ls 1 [(0, .ref al)] := hl
  obtain ⟨H, hH⟩ : ∃ H, H = s9.heap := ⟨_, rfl⟩
  obtain ⟨locs, hlo⟩ : ∃ z : List Loc, z = [] := ⟨_, rfl⟩
  rw [← hH] at hP ⊢
  have hS : WS ε s9.heap H locs := by rw [hH, hlo]; exact hS
  rw [← hlo]
  clear hH hlo
  refine lv_aload_n (pc := 0) hx hb dJx4a65c_size_8abf5_0 rfl (lv_at hl 0 rfl) ?_
  refine r_get (pc := 1) hC hK hP hia (hc := rfl) (fun w h => wt_2 w h) 2 (by decide) m_2_7 (fun _ h => h) (v := .int (iv n)) rfl dJx4a65c_size_8abf5_1 ?_
  refine c_iret (pc := 4) hC hQ hP hD hS (by decide) (by decide) dJx4a65c_size_8abf5_4 ?_
  exact ⟨rfl, rfl⟩
