abbrev rm_c_J_bitCount : Room := { frames := 0, cells := 0, slots := 0, locals := 0 }
set_option maxRecDepth 100000 in
set_option maxHeartbeats 4000000 in
theorem c_J_bitCount (l : Launch) (ε : EV) (ws : va_W) (x : Int32) : CT l yJ6_bitCount_0f7a4 cJ6_bitCount_0f7a4 1 (some .int) rm_c_J_bitCount ε [.int x] (ws) (fun v w => v = some (.int (BCx x)) ∧ w = ws) NX := by
  refine CT.intro (by decide +kernel) (Nat.le_of_ble_eq_true rfl) ?_
  intro p9 e9 s9 m9 a9 bl9 me9 c9 ls Q9 hC hE hP hD hl hQ
  have hx := hC.1
  have hb := hC.2.1
  have hK := hE.K
  have hS : WS ε s9.heap s9.heap [] := va_S.rf
  have hl : lv_has ls 1 [(0, .int x)] := hl
  obtain ⟨H, hH⟩ : ∃ H, H = s9.heap := ⟨_, rfl⟩
  obtain ⟨locs, hlo⟩ : ∃ z : List Loc, z = [] := ⟨_, rfl⟩
  rw [← hH] at hP ⊢
  have hS : WS ε s9.heap H locs := by rw [hH, hlo]; exact hS
  rw [← hlo]
  clear hH hlo
  refine lv_iload_n (pc := 0) hx hb dJ6_bitCount_0f7a4_0 rfl (lv_at hl 0 rfl) ?_
  refine lv_iload_n (pc := 1) hx hb dJ6_bitCount_0f7a4_1 rfl (lv_at hl 0 rfl) ?_
  refine lv_iconst (pc := 2) (v := iv 1) hx hb dJ6_bitCount_0f7a4_2 rfl ?_
  refine lv_iushr (pc := 3) (x := x) (y := (iv 1)) hx hb dJ6_bitCount_0f7a4_3 rfl ?_
  refine lv_topi (fun y3 e3 => ?_)
  refine lv_ldcw (v := iv 1431655765) hx hb (own := RJ6) hC.2.2.2.1 (by rw [show iv 1431655765 = (1431655765 : Int32) by decide]; exact hC.2.2.2.2.1 _ m_18_11) dJ6_bitCount_0f7a4_4 ?_
  refine lv_iand (pc := 7) (x := y3) (y := (iv 1431655765)) hx hb dJ6_bitCount_0f7a4_7 ?_
  refine lv_topi (fun y7 e7 => ?_)
  refine lv_isub (pc := 8) (x := x) (y := y7) hx hb dJ6_bitCount_0f7a4_8 ?_
  refine lv_topi (fun y8 e8 => ?_)
  refine lv_istore_n (lv' := [(0, .int y8)]) (pc := 9) hx hb dJ6_bitCount_0f7a4_9 rfl hl (by decide) rfl (fun ls hl => ?_)
  refine lv_iload_n (pc := 10) hx hb dJ6_bitCount_0f7a4_10 rfl (lv_at hl 0 rfl) ?_
  refine lv_ldcw (v := iv 858993459) hx hb (own := RJ6) hC.2.2.2.1 (by rw [show iv 858993459 = (858993459 : Int32) by decide]; exact hC.2.2.2.2.1 _ m_18_12) dJ6_bitCount_0f7a4_11 ?_
  refine lv_iand (pc := 14) (x := y8) (y := (iv 858993459)) hx hb dJ6_bitCount_0f7a4_14 ?_
  refine lv_topi (fun y14 e14 => ?_)
  refine lv_iload_n (pc := 15) hx hb dJ6_bitCount_0f7a4_15 rfl (lv_at hl 0 rfl) ?_
  refine lv_iconst (pc := 16) (v := iv 2) hx hb dJ6_bitCount_0f7a4_16 rfl ?_
  refine lv_iushr (pc := 17) (x := y8) (y := (iv 2)) hx hb dJ6_bitCount_0f7a4_17 rfl ?_
  refine lv_topi (fun y17 e17 => ?_)
  refine lv_ldcw (v := iv 858993459) hx hb (own := RJ6) hC.2.2.2.1 (by rw [show iv 858993459 = (858993459 : Int32) by decide]; exact hC.2.2.2.2.1 _ m_18_12) dJ6_bitCount_0f7a4_18 ?_
  refine lv_iand (pc := 21) (x := y17) (y := (iv 858993459)) hx hb dJ6_bitCount_0f7a4_21 ?_
  refine lv_topi (fun y21 e21 => ?_)
  refine lv_iadd (pc := 22) (x := y14) (y := y21) hx hb dJ6_bitCount_0f7a4_22 ?_
  refine lv_topi (fun y22 e22 => ?_)
  refine lv_istore_n (lv' := [(0, .int y22)]) (pc := 23) hx hb dJ6_bitCount_0f7a4_23 rfl hl (by decide) rfl (fun ls hl => ?_)
  refine lv_iload_n (pc := 24) hx hb dJ6_bitCount_0f7a4_24 rfl (lv_at hl 0 rfl) ?_
  refine lv_iload_n (pc := 25) hx hb dJ6_bitCount_0f7a4_25 rfl (lv_at hl 0 rfl) ?_
  refine lv_iconst (pc := 26) (v := iv 4) hx hb dJ6_bitCount_0f7a4_26 rfl ?_
  refine lv_iushr (pc := 27) (x := y22) (y := (iv 4)) hx hb dJ6_bitCount_0f7a4_27 rfl ?_
  refine lv_topi (fun y27 e27 => ?_)
  refine lv_iadd (pc := 28) (x := y22) (y := y27) hx hb dJ6_bitCount_0f7a4_28 ?_
  refine lv_topi (fun y28 e28 => ?_)
  refine lv_ldcw (v := iv 252645135) hx hb (own := RJ6) hC.2.2.2.1 (by rw [show iv 252645135 = (252645135 : Int32) by decide]; exact hC.2.2.2.2.1 _ m_18_13) dJ6_bitCount_0f7a4_29 ?_
  refine lv_iand (pc := 32) (x := y28) (y := (iv 252645135)) hx hb dJ6_bitCount_0f7a4_32 ?_
  refine lv_topi (fun y32 e32 => ?_)
  refine lv_istore_n (lv' := [(0, .int y32)]) (pc := 33) hx hb dJ6_bitCount_0f7a4_33 rfl hl (by decide) rfl (fun ls hl => ?_)
  refine lv_iload_n (pc := 34) hx hb dJ6_bitCount_0f7a4_34 rfl (lv_at hl 0 rfl) ?_
  refine lv_iload_n (pc := 35) hx hb dJ6_bitCount_0f7a4_35 rfl (lv_at hl 0 rfl) ?_
  refine lv_bipush (pc := 36) (v := iv 8) hx hb dJ6_bitCount_0f7a4_36 (by decide) ?_
  refine lv_iushr (pc := 38) (x := y32) (y := (iv 8)) hx hb dJ6_bitCount_0f7a4_38 rfl ?_
  refine lv_topi (fun y38 e38 => ?_)
  refine lv_iadd (pc := 39) (x := y32) (y := y38) hx hb dJ6_bitCount_0f7a4_39 ?_
  refine lv_topi (fun y39 e39 => ?_)
  refine lv_istore_n (lv' := [(0, .int y39)]) (pc := 40) hx hb dJ6_bitCount_0f7a4_40 rfl hl (by decide) rfl (fun ls hl => ?_)
  refine lv_iload_n (pc := 41) hx hb dJ6_bitCount_0f7a4_41 rfl (lv_at hl 0 rfl) ?_
  refine lv_iload_n (pc := 42) hx hb dJ6_bitCount_0f7a4_42 rfl (lv_at hl 0 rfl) ?_
  refine lv_bipush (pc := 43) (v := iv 16) hx hb dJ6_bitCount_0f7a4_43 (by decide) ?_
  refine lv_iushr (pc := 45) (x := y39) (y := (iv 16)) hx hb dJ6_bitCount_0f7a4_45 rfl ?_
  refine lv_topi (fun y45 e45 => ?_)
  refine lv_iadd (pc := 46) (x := y39) (y := y45) hx hb dJ6_bitCount_0f7a4_46 ?_
  refine lv_topi (fun y46 e46 => ?_)
  refine lv_istore_n (lv' := [(0, .int y46)]) (pc := 47) hx hb dJ6_bitCount_0f7a4_47 rfl hl (by decide) rfl (fun ls hl => ?_)
  refine lv_iload_n (pc := 48) hx hb dJ6_bitCount_0f7a4_48 rfl (lv_at hl 0 rfl) ?_
  refine lv_bipush (pc := 49) (v := iv 63) hx hb dJ6_bitCount_0f7a4_49 (by decide) ?_
  refine lv_iand (pc := 51) (x := y46) (y := (iv 63)) hx hb dJ6_bitCount_0f7a4_51 ?_
  refine lv_topi (fun y51 e51 => ?_)
  refine c_iret (pc := 52) hC hQ hP hD hS (by decide) (by decide) dJ6_bitCount_0f7a4_52 ?_
  exact ⟨congrArg (fun z => some (Value.int z)) (by unfold BCx; dsimp only; subst_vars; rfl), rfl⟩
