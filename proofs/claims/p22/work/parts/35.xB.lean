abbrev rm_c_J_bitCount : Room := { frames := 0, cells := 0, slots := 0, locals := 0 }
set_option maxRecDepth 100000 in
set_option maxHeartbeats 4000000 in
theorem c_J_bitCount (l : Launch) (ε : EV) (ws : va_W) (x : Int32) : CT l yJ6_bitCount_0f7a4 cJ6_bitCount_0f7a4 1 (some .int) rm_c_J_bitCount ε [.int x] (ws) (fun v w => v = some (.int (BCx x)) ∧ w = ws) NX := by
  refine CT.intro (by decide +kernel) (Nat.le_of_ble_eq_true rfl) ?_
  intro p9 e9 s9 m9 a9 bl9 me9 c9 ls Q9 hC hE hP hD hl hQ
  have hx := hC.1
  have hb := hC.2.1
  have hK := hE.K
  have hS : WS ε s9.heap s9.heap [] := va_S.rf
  have hl : lv_has ls 1 [(0, .int x)] := hl
  obtain ⟨H, hH⟩ : ∃ H, H = s9.heap := ⟨_, rfl⟩
  obtain ⟨locs, hlo⟩ : ∃ z : List Loc, z = [] := ⟨_, rfl⟩
  rw [← hH] at hP ⊢
  have hS : WS ε s9.heap H locs := by rw [hH, hlo]; exact hS
  rw [← hlo]
  clear hH hlo
  refine lv_iload_n (pc := 0) hx hb dJ6_bitCount_0f7a4_0 rfl (lv_at hl 0 rfl) ?_
  refine lv_iload_n (pc := 1) hx hb dJ6_bitCount_0f7a4_1 rfl (lv_at hl 0 rfl) ?_
  refine lv_iconst (pc := 2) (v := iv 1) hx hb dJ6_bitCount_0f7a4_2 rfl ?_
  refine lv_iushr (pc := 3) (x := x) (y := (iv 1)) hx hb dJ6_bitCount_0f7a4_3 rfl ?_
  refine lv_topi (fun y3 e3 => ?_)
  refine lv_ldcw (v := iv 1431655765) hx hb (own := RJ6) hC.2.2.2.1 (by rw [show iv 1431655765 = (1431655765 : Int32) by decide]; exact hC.2.2.2.2.1 _ m_4_15) dJ6_bitCount_0f7a4_4 ?_
  refine lv_iand (pc := 7) (x := y3) (y := (iv 1431655765)) hx hb dJ6_bitCount_0f7a4_7 ?_
  refine lv_topi (fun y7 e7 => ?_)
  refine lv_isub (pc := 8) (x := x) (y := y7) hx hb dJ6_bitCount_0f7a4_8 ?_
  refine lv_topi (fun y8 e8 => ?_)
  refine lv_istore_n (lv' := [(0, .int y8)]) (pc := 9) hx hb dJ6_bitCount_0f7a4_9 rfl hl (by decide) rfl (fun ls hl => ?_)
  refine lv_iload_n (pc := 10) hx hb dJ6_bitCount_0f7a4_10 rfl (lv_at hl 0 rfl) ?_
  refine lv_ldcw (v := iv 858993459) hx hb (own := RJ6) hC.2.2.2.1 (by rw [show iv 858993459 = (858993459 : Int32) by decide]; exact hC.2.2.2.2.1 _ m_4_16) dJ6_bitCount_0f7a4_11 ?_
  refine lv_iand (pc := 14) (x := y8) (y := (iv 858993459)) hx hb dJ6_bitCount_0f7a4_14 ?_
  refine lv_topi (fun y14 e14 => ?_)
  refine lv_iload_n (pc := 15) hx hb dJ6_bitCount_0f7a4_15 rfl (lv_at hl 0 rfl) ?_
  refine lv_iconst (pc := 16) (v := iv 2) hx hb dJ6_bitCount_0f7a4_16 rfl ?_
  refine lv_iushr (pc := 17) (x := y8) (y := (iv 2)) hx hb dJ6_bitCount_0f7a4_17 rfl ?_
  refine lv_topi (fun y17 e17 => ?_)
  refine lv_ldcw (v := iv 858993459) hx hb (own := RJ6) hC.2.2.2.1 (by rw [show iv 858993459 = (858993459 : Int32) by decide]; exact hC.2.2.2.2.1 _ m_4_16) dJ6_bitCount_0f7a4_18 ?_
  refine lv_iand (pc := 21) (x := y17) (y := (iv 858993459)) hx hb dJ6_bitCount_0f7a4_21 ?_
  refine lv_topi (fun y21 e21 => ?_)
  refine lv_iadd (pc := 22) (x := y14) (y := y21) hx hb dJ6_bitCount_0f7a4_22 ?_
  refine lv_topi (fun y22 e22 => ?_)
  refine lv_istore_n (lv' := [(0, .int y22)]) (pc := 23) hx hb dJ6_bitCount_0f7a4_23 rfl hl (by decide) rfl (fun ls hl => ?_)
  refine lv_iload_n (pc := 24) hx hb dJ6_bitCount_0f7a4_24 rfl (lv_at hl 0 rfl) ?_
  refine lv_iload_n (pc := 25) hx hb dJ6_bitCount_0f7a4_25 rfl (lv_at hl 0 rfl) ?_
  refine lv_iconst (pc := 26) (v := iv 4) hx hb dJ6_bitCount_0f7a4_26 rfl ?_
  refine lv_iushr (pc := 27) (x := y22) (y := (iv 4)) hx hb dJ6_bitCount_0f7a4_27 rfl ?_
  refine lv_topi (fun y27 e27 => ?_)
  refine lv_iadd (pc := 28) (x := y22) (y := y27) hx hb dJ6_bitCount_0f7a4_28 ?_
  refine lv_topi (fun y28 e28 => ?_)
  refine lv_ldcw (v := iv 252645135) hx hb (own := RJ6) hC.2.2.2.1 (by rw [show iv 252645135 = (252645135 : Int32) by decide]; exact hC.2.2.2.2.1 _ m_4_17) dJ6_bitCount_0f7a4_29 ?_
  refine lv_iand (pc := 32) (x := y28) (y := (iv 252645135)) hx hb dJ6_bitCount_0f7a4_32 ?_
  refine lv_topi (fun y32 e32 => ?_)
  refine lv_istore_n (lv' := [(0, .int y32)]) (pc := 33) hx hb dJ6_bitCount_0f7a4_33 rfl hl (by decide) rfl (fun ls hl => ?_)
  refine lv_iload_n (pc := 34) hx hb dJ6_bitCount_0f7a4_34 rfl (lv_at hl 0 rfl) ?_
  refine lv_iload_n (pc := 35) hx hb dJ6_bitCount_0f7a4_35 rfl (lv_at hl 0 rfl) ?_
  refine lv_bipush (pc := 36) (v := iv 8) hx hb dJ6_bitCount_0f7a4_36 (by decide) ?_
  refine lv_iushr (pc := 38) (x := y32) (y := (iv 8)) hx hb dJ6_bitCount_0f7a4_38 rfl ?_
  refine lv_topi (fun y38 e38 => ?_)
  refine lv_iadd (pc := 39) (x := y32) (y := y38) hx hb dJ6_bitCount_0f7a4_39 ?_
  refine lv_topi (fun y39 e39 => ?_)
  refine lv_istore_n (lv' := [(0, .int y39)]) (pc := 40) hx hb dJ6_bitCount_0f7a4_40 rfl hl (by decide) rfl (fun ls hl => ?_)
  refine lv_iload_n (pc := 41) hx hb dJ6_bitCount_0f7a4_41 rfl (lv_at hl 0 rfl) ?_
  refine lv_iload_n (pc := 42) hx hb dJ6_bitCount_0f7a4_42 rfl (lv_at hl 0 rfl) ?_
  refine lv_bipush (pc := 43) (v := iv 16) hx hb dJ6_bitCount_0f7a4_43 (by decide) ?_
  refine lv_iushr (pc := 45) (x := y39) (y := (iv 16)) hx hb dJ6_bitCount_0f7a4_45 rfl ?_
  refine lv_topi (fun y45 e45 => ?_)
  refine lv_iadd (pc := 46) (x := y39) (y := y45) hx hb dJ6_bitCount_0f7a4_46 ?_
  refine lv_topi (fun y46 e46 => ?_)
  refine lv_istore_n (lv' := [(0, .int y46)]) (pc := 47) hx hb dJ6_bitCount_0f7a4_47 rfl hl (by decide) rfl (fun ls hl => ?_)
  refine lv_iload_n (pc := 48) hx hb dJ6_bitCount_0f7a4_48 rfl (lv_at hl 0 rfl) ?_
  refine lv_bipush (pc := 49) (v := iv 63) hx hb dJ6_bitCount_0f7a4_49 (by decide) ?_
  refine lv_iand (pc := 51) (x := y46) (y := (iv 63)) hx hb dJ6_bitCount_0f7a4_51 ?_
  refine lv_topi (fun y51 e51 => ?_)
  refine c_iret (pc := 52) hC hQ hP hD hS (by decide) (by decide) dJ6_bitCount_0f7a4_52 ?_
  exact ⟨congrArg (fun z => some (Value.int z)) (by unfold BCx; dsimp only; subst_vars; rfl), rfl⟩

abbrev rm_c_L_quarterOf : Room := { frames := 0, cells := 0, slots := 0, locals := 0 }
set_option maxRecDepth 100000 in
set_option maxHeartbeats 4000000 in
theorem c_L_quarterOf (l : Launch) (ε : EV) (ws : va_W) (a b : Int) (ra : -1000 ≤ a ∧ a ≤ 1000) (rb : -1000 ≤ b ∧ b ≤ 1000) : CT l yX1_quarterOf cX1_quarterOf 2 (some .int) rm_c_L_quarterOf ε [.int (iv a), .int (iv b)] (ws) (fun v w => v = some (.int (iv (qrt a b))) ∧ w = ws) NX := by
  refine CT.intro (by decide +kernel) (Nat.le_of_ble_eq_true rfl) ?_
  intro p9 e9 s9 m9 a9 bl9 me9 c9 ls Q9 hC hE hP hD hl hQ
  have hx := hC.1
  have hb := hC.2.1
  have hK := hE.K
  have hS : WS ε s9.heap s9.heap [] := va_S.rf
  have hl : lv_has ls 2 [(0, .int (iv a)), (1, .int (iv b))] := hl
  obtain ⟨H, hH⟩ : ∃ H, H = s9.heap := ⟨_, rfl⟩
  obtain ⟨locs, hlo⟩ : ∃ z : List Loc, z = [] := ⟨_, rfl⟩
  rw [← hH] at hP ⊢
  have hS : WS ε s9.heap H locs := by rw [hH, hlo]; exact hS
  rw [← hlo]
  clear hH hlo
  refine lv_iload_n (pc := 0) hx hb dX1_quarterOf_0 rfl (lv_at hl 0 rfl) ?_
  refine r_if_le (pc := 1) (a := a) hx hb dX1_quarterOf_1 (tgt := 10) (by decide) ⟨by omega, by omega⟩ (fun c_1 => ?_) (fun c_1 => ?_)
  · have c_1_ := c_1
    refine lv_iload_n (pc := 10) hx hb dX1_quarterOf_10 rfl (lv_at hl 0 rfl) ?_
    refine r_if_gt (pc := 11) (a := a) hx hb dX1_quarterOf_11 (tgt := 20) (by decide) ⟨by omega, by omega⟩ (fun c_11 => ?_) (fun c_11 => ?_)
    · have c_11_ := c_11
      refine lv_iload_n (pc := 20) hx hb dX1_quarterOf_20 rfl (lv_at hl 0 rfl) ?_
      refine r_if_ge (pc := 21) (a := a) hx hb dX1_quarterOf_21 (tgt := 30) (by decide) ⟨by omega, by omega⟩ (fun c_21 => ?_) (fun c_21 => ?_)
      · have c_21_ := c_21
        refine lv_iconst (pc := 30) (v := iv 3) hx hb dX1_quarterOf_30 rfl ?_
        refine c_iret (pc := 31) hC hQ hP hD hS (by decide) (by decide) dX1_quarterOf_31 ?_
        exact ⟨congrArg (fun z => some (Value.int (iv z))) (by unfold qrt; repeat' split <;> omega), rfl⟩
      · have c_21_ := c_21
        refine lv_iload_n (pc := 24) hx hb dX1_quarterOf_24 rfl (lv_at hl 1 rfl) ?_
        refine r_if_gt (pc := 25) (a := b) hx hb dX1_quarterOf_25 (tgt := 30) (by decide) ⟨by omega, by omega⟩ (fun c_25 => ?_) (fun c_25 => ?_)
        · have c_25_ := c_25
          refine lv_iconst (pc := 30) (v := iv 3) hx hb dX1_quarterOf_30 rfl ?_
          refine c_iret (pc := 31) hC hQ hP hD hS (by decide) (by decide) dX1_quarterOf_31 ?_
          exact ⟨congrArg (fun z => some (Value.int (iv z))) (by unfold qrt; repeat' split <;> omega), rfl⟩
        · have c_25_ := c_25
          refine lv_iconst (pc := 28) (v := iv 2) hx hb dX1_quarterOf_28 rfl ?_
          refine c_iret (pc := 29) hC hQ hP hD hS (by decide) (by decide) dX1_quarterOf_29 ?_
          exact ⟨congrArg (fun z => some (Value.int (iv z))) (by unfold qrt; repeat' split <;> omega), rfl⟩
    · have c_11_ := c_11
      refine lv_iload_n (pc := 14) hx hb dX1_quarterOf_14 rfl (lv_at hl 1 rfl) ?_
      refine r_if_le (pc := 15) (a := b) hx hb dX1_quarterOf_15 (tgt := 20) (by decide) ⟨by omega, by omega⟩ (fun c_15 => ?_) (fun c_15 => ?_)
      · have c_15_ := c_15
        refine lv_iload_n (pc := 20) hx hb dX1_quarterOf_20 rfl (lv_at hl 0 rfl) ?_
        refine r_if_ge (pc := 21) (a := a) hx hb dX1_quarterOf_21 (tgt := 30) (by decide) ⟨by omega, by omega⟩ (fun c_21 => ?_) (fun c_21 => ?_)
        · have c_21_ := c_21
          refine lv_iconst (pc := 30) (v := iv 3) hx hb dX1_quarterOf_30 rfl ?_
          refine c_iret (pc := 31) hC hQ hP hD hS (by decide) (by decide) dX1_quarterOf_31 ?_
          exact ⟨congrArg (fun z => some (Value.int (iv z))) (by unfold qrt; repeat' split <;> omega), rfl⟩
        · have c_21_ := c_21
          refine lv_iload_n (pc := 24) hx hb dX1_quarterOf_24 rfl (lv_at hl 1 rfl) ?_
          refine r_if_gt (pc := 25) (a := b) hx hb dX1_quarterOf_25 (tgt := 30) (by decide) ⟨by omega, by omega⟩ (fun c_25 => ?_) (fun c_25 => ?_)
          · have c_25_ := c_25
            refine lv_iconst (pc := 30) (v := iv 3) hx hb dX1_quarterOf_30 rfl ?_
            refine c_iret (pc := 31) hC hQ hP hD hS (by decide) (by decide) dX1_quarterOf_31 ?_
            exact ⟨congrArg (fun z => some (Value.int (iv z))) (by unfold qrt; repeat' split <;> omega), rfl⟩
          · have c_25_ := c_25
            refine lv_iconst (pc := 28) (v := iv 2) hx hb dX1_quarterOf_28 rfl ?_
            refine c_iret (pc := 29) hC hQ hP hD hS (by decide) (by decide) dX1_quarterOf_29 ?_
            exact ⟨congrArg (fun z => some (Value.int (iv z))) (by unfold qrt; repeat' split <;> omega), rfl⟩
      · have c_15_ := c_15
        refine lv_iconst (pc := 18) (v := iv 1) hx hb dX1_quarterOf_18 rfl ?_
        refine c_iret (pc := 19) hC hQ hP hD hS (by decide) (by decide) dX1_quarterOf_19 ?_
        exact ⟨congrArg (fun z => some (Value.int (iv z))) (by unfold qrt; repeat' split <;> omega), rfl⟩
  · have c_1_ := c_1
    refine lv_iload_n (pc := 4) hx hb dX1_quarterOf_4 rfl (lv_at hl 1 rfl) ?_
    refine r_if_lt (pc := 5) (a := b) hx hb dX1_quarterOf_5 (tgt := 10) (by decide) ⟨by omega, by omega⟩ (fun c_5 => ?_) (fun c_5 => ?_)
    · have c_5_ := c_5
      refine lv_iload_n (pc := 10) hx hb dX1_quarterOf_10 rfl (lv_at hl 0 rfl) ?_
      refine r_if_gt (pc := 11) (a := a) hx hb dX1_quarterOf_11 (tgt := 20) (by decide) ⟨by omega, by omega⟩ (fun c_11 => ?_) (fun c_11 => ?_)
      · have c_11_ := c_11
        refine lv_iload_n (pc := 20) hx hb dX1_quarterOf_20 rfl (lv_at hl 0 rfl) ?_
        refine r_if_ge (pc := 21) (a := a) hx hb dX1_quarterOf_21 (tgt := 30) (by decide) ⟨by omega, by omega⟩ (fun c_21 => ?_) (fun c_21 => ?_)
        · have c_21_ := c_21
          refine lv_iconst (pc := 30) (v := iv 3) hx hb dX1_quarterOf_30 rfl ?_
          refine c_iret (pc := 31) hC hQ hP hD hS (by decide) (by decide) dX1_quarterOf_31 ?_
          exact ⟨congrArg (fun z => some (Value.int (iv z))) (by unfold qrt; repeat' split <;> omega), rfl⟩
        · have c_21_ := c_21
          refine lv_iload_n (pc := 24) hx hb dX1_quarterOf_24 rfl (lv_at hl 1 rfl) ?_
          refine r_if_gt (pc := 25) (a := b) hx hb dX1_quarterOf_25 (tgt := 30) (by decide) ⟨by omega, by omega⟩ (fun c_25 => ?_) (fun c_25 => ?_)
          · have c_25_ := c_25
            refine lv_iconst (pc := 30) (v := iv 3) hx hb dX1_quarterOf_30 rfl ?_
            refine c_iret (pc := 31) hC hQ hP hD hS (by decide) (by decide) dX1_quarterOf_31 ?_
            exact ⟨congrArg (fun z => some (Value.int (iv z))) (by unfold qrt; repeat' split <;> omega), rfl⟩
          · have c_25_ := c_25
            refine lv_iconst (pc := 28) (v := iv 2) hx hb dX1_quarterOf_28 rfl ?_
            refine c_iret (pc := 29) hC hQ hP hD hS (by decide) (by decide) dX1_quarterOf_29 ?_
            exact ⟨congrArg (fun z => some (Value.int (iv z))) (by unfold qrt; repeat' split <;> omega), rfl⟩
      · have c_11_ := c_11
        refine lv_iload_n (pc := 14) hx hb dX1_quarterOf_14 rfl (lv_at hl 1 rfl) ?_
        refine r_if_le (pc := 15) (a := b) hx hb dX1_quarterOf_15 (tgt := 20) (by decide) ⟨by omega, by omega⟩ (fun c_15 => ?_) (fun c_15 => ?_)
        · have c_15_ := c_15
          refine lv_iload_n (pc := 20) hx hb dX1_quarterOf_20 rfl (lv_at hl 0 rfl) ?_
          refine r_if_ge (pc := 21) (a := a) hx hb dX1_quarterOf_21 (tgt := 30) (by decide) ⟨by omega, by omega⟩ (fun c_21 => ?_) (fun c_21 => ?_)
          · have c_21_ := c_21
            refine lv_iconst (pc := 30) (v := iv 3) hx hb dX1_quarterOf_30 rfl ?_
            refine c_iret (pc := 31) hC hQ hP hD hS (by decide) (by decide) dX1_quarterOf_31 ?_
            exact ⟨congrArg (fun z => some (Value.int (iv z))) (by unfold qrt; repeat' split <;> omega), rfl⟩
          · have c_21_ := c_21
            refine lv_iload_n (pc := 24) hx hb dX1_quarterOf_24 rfl (lv_at hl 1 rfl) ?_
            refine r_if_gt (pc := 25) (a := b) hx hb dX1_quarterOf_25 (tgt := 30) (by decide) ⟨by omega, by omega⟩ (fun c_25 => ?_) (fun c_25 => ?_)
            · have c_25_ := c_25
              refine lv_iconst (pc := 30) (v := iv 3) hx hb dX1_quarterOf_30 rfl ?_
              refine c_iret (pc := 31) hC hQ hP hD hS (by decide) (by decide) dX1_quarterOf_31 ?_
              exact ⟨congrArg (fun z => some (Value.int (iv z))) (by unfold qrt; repeat' split <;> omega), rfl⟩
            · have c_25_ := c_25
              refine lv_iconst (pc := 28) (v := iv 2) hx hb dX1_quarterOf_28 rfl ?_
              refine c_iret (pc := 29) hC hQ hP hD hS (by decide) (by decide) dX1_quarterOf_29 ?_
              exact ⟨congrArg (fun z => some (Value.int (iv z))) (by unfold qrt; repeat' split <;> omega), rfl⟩
        · have c_15_ := c_15
          refine lv_iconst (pc := 18) (v := iv 1) hx hb dX1_quarterOf_18 rfl ?_
          refine c_iret (pc := 19) hC hQ hP hD hS (by decide) (by decide) dX1_quarterOf_19 ?_
          exact ⟨congrArg (fun z => some (Value.int (iv z))) (by unfold qrt; repeat' split <;> omega), rfl⟩
    · have c_5_ := c_5
      refine lv_iconst (pc := 8) (v := iv 0) hx hb dX1_quarterOf_8 rfl ?_
      refine c_iret (pc := 9) hC hQ hP hD hS (by decide) (by decide) dX1_quarterOf_9 ?_
      exact ⟨congrArg (fun z => some (Value.int (iv z))) (by unfold qrt; repeat' split <;> omega), rfl⟩

abbrev rm_c_L_sectorOf : Room := { frames := 1, cells := 0, slots := 0, locals := 30 }
set_option maxRecDepth 100000 in
set_option maxHeartbeats 4000000 in
theorem c_L_sectorOf (l : Launch) (ε : EV) (ws : va_W) (a b : Int) (ra : -1000 ≤ a ∧ a ≤ 1000) (rb : -1000 ≤ b ∧ b ≤ 1000) : CT l yX1_sectorOf cX1_sectorOf 5 (some .int) rm_c_L_sectorOf ε [.int (iv a), .int (iv b)] (ws) (fun v w => v = some (.int (iv (sectP a b))) ∧ w = ws) NX := by
  refine CT.intro (by decide +kernel) (Nat.le_of_ble_eq_true rfl) ?_
  intro p9 e9 s9 m9 a9 bl9 me9 c9 ls Q9 hC hE hP hD hl hQ
  have hx := hC.1
  have hb := hC.2.1
  have hK := hE.K
  have hS : WS ε s9.heap s9.heap [] := va_S.rf
  have hl : lv_has ls 5 [(0, .int (iv a)), (1, .int (iv b))] := hl
  obtain ⟨H, hH⟩ : ∃ H, H = s9.heap := ⟨_, rfl⟩
  obtain ⟨locs, hlo⟩ : ∃ z : List Loc, z = [] := ⟨_, rfl⟩
  rw [← hH] at hP ⊢
  have hS : WS ε s9.heap H locs := by rw [hH, hlo]; exact hS
  rw [← hlo]
  clear hH hlo
  have hqb := qrt_bd a b
  refine lv_iload_n (pc := 0) hx hb dX1_sectorOf_0 rfl (lv_at hl 0 rfl) ?_
  refine r_if_ne (pc := 1) (a := a) hx hb dX1_sectorOf_1 (tgt := 10) (by decide) ⟨by omega, by omega⟩ (fun c_1 => ?_) (fun c_1 => ?_)
  · have c_1_ := c_1
    have hn0 : ¬ (a = 0 ∧ b = 0) := by omega
    refine lv_iload_n (pc := 10) hx hb dX1_sectorOf_10 rfl (lv_at hl 0 rfl) ?_
    refine lv_iload_n (pc := 11) hx hb dX1_sectorOf_11 rfl (lv_at hl 1 rfl) ?_
    refine c_callS (pc := 12) (y := yX1_quarterOf) (As := [.int (iv a), .int (iv b)]) (rest := []) hC hE hP hD hS hl.1 (c_L_quarterOf l ε ws (a) (b) ra rb) m_11_21 m_11_22 m_4_8 m_11_23 hd_yX1_quarterOf rfl ⟨⟨by decide, by decide⟩, by decide, by decide⟩ (Nat.le_of_ble_eq_true rfl) rfl dX1_sectorOf_12 kxN (fun v ws1 H locs hq hP hD hS => ?_)
    rw [hq.2] at hP hD
    rw [hq.1]
    dsimp only [Option.toList, List.cons_append, List.nil_append]
    refine lv_istore_n (lv' := [(2, .int (iv (qrt a b))), (0, .int (iv a)), (1, .int (iv b))]) (pc := 15) hx hb dX1_sectorOf_15 rfl hl (by decide) rfl (fun ls hl => ?_)
    have lp_33 : ∀ (al : Int) (ha : al = if qrt a b % 2 = 0 then ab a else ab b), ∀ (H : Heap) (locs : List Loc) (ls : Array Slot), WP ε (ws) H → WD ε (ws) → WS ε s9.heap H locs → lv_has ls 5 [(0, .int (iv a)), (1, .int (iv b)), (2, .int (iv (qrt a b)))] → W p9 l e9 rm_c_L_sectorOf s9 m9 a9 bl9 me9 c9 H locs 0 0 Q9 (F0 m9 33 ls [.int (iv al)]) := by
      intro al ha H locs ls hP hD hS hl
      refine lv_istore_n (lv' := [(3, .int (iv al)), (0, .int (iv a)), (1, .int (iv b)), (2, .int (iv (qrt a b)))]) (pc := 33) hx hb dX1_sectorOf_33 rfl hl (by decide) rfl (fun ls hl => ?_)
      have lp_51 : ∀ (cr : Int) (hc : cr = if qrt a b % 2 = 0 then ab b else ab a), ∀ (H : Heap) (locs : List Loc) (ls : Array Slot), WP ε (ws) H → WD ε (ws) → WS ε s9.heap H locs → lv_has ls 5 [(0, .int (iv a)), (1, .int (iv b)), (2, .int (iv (qrt a b))), (3, .int (iv al))] → W p9 l e9 rm_c_L_sectorOf s9 m9 a9 bl9 me9 c9 H locs 0 0 Q9 (F0 m9 51 ls [.int (iv cr)]) := by
        intro cr hc H locs ls hP hD hS hl
        have haa := ab_bd (a := a)
        have hbb := ab_bd (a := b)
        have hmp : moreP a b ↔ al ≤ cr := by rw [ha, hc]; unfold moreP; split <;> omega
        have hal : 0 ≤ al ∧ al ≤ 1000 := by rw [ha]; split <;> omega
        have hcr : 0 ≤ cr ∧ cr ≤ 1000 := by rw [hc]; split <;> omega
        refine lv_istore (lv' := [(4, .int (iv cr)), (0, .int (iv a)), (1, .int (iv b)), (2, .int (iv (qrt a b))), (3, .int (iv al))]) (pc := 51) hx hb dX1_sectorOf_51 hl (by decide) rfl (fun ls hl => ?_)
        refine lv_iload (pc := 53) hx hb dX1_sectorOf_53 (lv_at hl 0 rfl) ?_
        refine lv_iload_n (pc := 55) hx hb dX1_sectorOf_55 rfl (lv_at hl 4 rfl) ?_
        refine r_icmp_lt (pc := 56) (a := cr) (b := al) hx hb dX1_sectorOf_56 (tgt := 67) (by decide) ⟨by omega, by omega⟩ ⟨by omega, by omega⟩ (fun c_56 => ?_) (fun c_56 => ?_)
        · have c_56_ := c_56
          refine lv_iconst (pc := 67) (v := iv 2) hx hb dX1_sectorOf_67 rfl ?_
          refine lv_iload_n (pc := 68) hx hb dX1_sectorOf_68 rfl (lv_at hl 3 rfl) ?_
          refine r_imul (pc := 69) (a := 2) (b := qrt a b) hx hb dX1_sectorOf_69 ?_
          have hres : 2 * (qrt a b) = sectP a b := by unfold sectP; rw [if_neg hn0, tb_f (fun z => by have z1 := hmp.mp z; omega)]; simp only [bz_t, bz_f] <;> omega
          refine c_iret (pc := 70) hC hQ hP hD hS (by decide) (by decide) dX1_sectorOf_70 ?_
          exact ⟨congrArg (fun z => some (Value.int (iv z))) hres, rfl⟩
        · have c_56_ := c_56
          refine lv_iconst (pc := 59) (v := iv 2) hx hb dX1_sectorOf_59 rfl ?_
          refine lv_iload_n (pc := 60) hx hb dX1_sectorOf_60 rfl (lv_at hl 3 rfl) ?_
          refine r_imul (pc := 61) (a := 2) (b := qrt a b) hx hb dX1_sectorOf_61 ?_
          refine lv_iconst (pc := 62) (v := iv 1) hx hb dX1_sectorOf_62 rfl ?_
          refine r_iadd (pc := 63) (a := 2 * (qrt a b)) (b := 1) hx hb dX1_sectorOf_63 ?_
          refine lv_goto (pc := 64) (tgt := 70) hx hb dX1_sectorOf_64 (by decide) ?_
          have hres : (2 * (qrt a b)) + 1 = sectP a b := by unfold sectP; rw [if_neg hn0, tb_t (hmp.mpr (by omega))]; simp only [bz_t, bz_f] <;> omega
          refine c_iret (pc := 70) hC hQ hP hD hS (by decide) (by decide) dX1_sectorOf_70 ?_
          exact ⟨congrArg (fun z => some (Value.int (iv z))) hres, rfl⟩
      refine lv_iload_n (pc := 34) hx hb dX1_sectorOf_34 rfl (lv_at hl 3 rfl) ?_
      refine lv_iconst (pc := 35) (v := iv 2) hx hb dX1_sectorOf_35 rfl ?_
      refine r_irem (pc := 36) (a := qrt a b) (b := 2) hx hb dX1_sectorOf_36 ⟨⟨by omega, by omega⟩, by omega, by omega⟩ ?_
      have hm_36 := Int.emod_nonneg (qrt a b) (show 2 ≠ 0 by omega)
      have hn_36 := Int.emod_lt_of_pos (qrt a b) (show 0 < 2 by omega)
      refine r_if_ne (pc := 37) (a := (qrt a b) % 2) hx hb dX1_sectorOf_37 (tgt := 47) (by decide) ⟨by omega, by omega⟩ (fun c_37 => ?_) (fun c_37 => ?_)
      · have c_37_ := c_37
        refine lv_iload_n (pc := 47) hx hb dX1_sectorOf_47 rfl (lv_at hl 1 rfl) ?_
        refine va_mabs (pc := 48) (x := iv a) hx hb (hC.2.2.1.trans hl.1.symm) (own := RX1) hC.2.2.2.1 (hC.2.2.2.2.1 _ m_11_18) (hC.2.2.2.2.1 _ m_11_19) (hC.2.2.2.2.1 _ m_6_3) (hC.2.2.2.2.1 _ m_11_20) (by decide) (Nat.le_of_ble_eq_true rfl) (by decide) (by decide) dX1_sectorOf_48 ?_
        rw [iv_abs ⟨by omega, by omega⟩]
        have hab_48 := ab_bd (a := a)
        exact lp_51 (ab a) (by rw [if_neg c_37]) _ _ _ hP hD hS (lv_sub hl [1, 2, 3, 0] rfl)
      · have c_37_ := c_37
        refine lv_iload_n (pc := 40) hx hb dX1_sectorOf_40 rfl (lv_at hl 2 rfl) ?_
        refine va_mabs (pc := 41) (x := iv b) hx hb (hC.2.2.1.trans hl.1.symm) (own := RX1) hC.2.2.2.1 (hC.2.2.2.2.1 _ m_11_18) (hC.2.2.2.2.1 _ m_11_19) (hC.2.2.2.2.1 _ m_6_3) (hC.2.2.2.2.1 _ m_11_20) (by decide) (Nat.le_of_ble_eq_true rfl) (by decide) (by decide) dX1_sectorOf_41 ?_
        rw [iv_abs ⟨by omega, by omega⟩]
        have hab_41 := ab_bd (a := b)
        refine lv_goto (pc := 44) (tgt := 51) hx hb dX1_sectorOf_44 (by decide) ?_
        exact lp_51 (ab b) (by rw [if_pos c_37]) _ _ _ hP hD hS (lv_sub hl [1, 2, 3, 0] rfl)
    refine lv_iload_n (pc := 16) hx hb dX1_sectorOf_16 rfl (lv_at hl 0 rfl) ?_
    refine lv_iconst (pc := 17) (v := iv 2) hx hb dX1_sectorOf_17 rfl ?_
    refine r_irem (pc := 18) (a := qrt a b) (b := 2) hx hb dX1_sectorOf_18 ⟨⟨by omega, by omega⟩, by omega, by omega⟩ ?_
    have hm_18 := Int.emod_nonneg (qrt a b) (show 2 ≠ 0 by omega)
    have hn_18 := Int.emod_lt_of_pos (qrt a b) (show 0 < 2 by omega)
    refine r_if_ne (pc := 19) (a := (qrt a b) % 2) hx hb dX1_sectorOf_19 (tgt := 29) (by decide) ⟨by omega, by omega⟩ (fun c_19 => ?_) (fun c_19 => ?_)
    · have c_19_ := c_19
      refine lv_iload_n (pc := 29) hx hb dX1_sectorOf_29 rfl (lv_at hl 2 rfl) ?_
      refine va_mabs (pc := 30) (x := iv b) hx hb (hC.2.2.1.trans hl.1.symm) (own := RX1) hC.2.2.2.1 (hC.2.2.2.2.1 _ m_11_18) (hC.2.2.2.2.1 _ m_11_19) (hC.2.2.2.2.1 _ m_6_3) (hC.2.2.2.2.1 _ m_11_20) (by decide) (Nat.le_of_ble_eq_true rfl) (by decide) (by decide) dX1_sectorOf_30 ?_
      rw [iv_abs ⟨by omega, by omega⟩]
      have hab_30 := ab_bd (a := b)
      exact lp_33 (ab b) (by rw [if_neg c_19]) _ _ _ hP hD hS (lv_sub hl [1, 2, 0] rfl)
    · have c_19_ := c_19
      refine lv_iload_n (pc := 22) hx hb dX1_sectorOf_22 rfl (lv_at hl 1 rfl) ?_
      refine va_mabs (pc := 23) (x := iv a) hx hb (hC.2.2.1.trans hl.1.symm) (own := RX1) hC.2.2.2.1 (hC.2.2.2.2.1 _ m_11_18) (hC.2.2.2.2.1 _ m_11_19) (hC.2.2.2.2.1 _ m_6_3) (hC.2.2.2.2.1 _ m_11_20) (by decide) (Nat.le_of_ble_eq_true rfl) (by decide) (by decide) dX1_sectorOf_23 ?_
      rw [iv_abs ⟨by omega, by omega⟩]
      have hab_23 := ab_bd (a := a)
      refine lv_goto (pc := 26) (tgt := 33) hx hb dX1_sectorOf_26 (by decide) ?_
      exact lp_33 (ab a) (by rw [if_pos c_19]) _ _ _ hP hD hS (lv_sub hl [1, 2, 0] rfl)
  · have c_1_ := c_1
    refine lv_iload_n (pc := 4) hx hb dX1_sectorOf_4 rfl (lv_at hl 1 rfl) ?_
    refine r_if_ne (pc := 5) (a := b) hx hb dX1_sectorOf_5 (tgt := 10) (by decide) ⟨by omega, by omega⟩ (fun c_5 => ?_) (fun c_5 => ?_)
    · have c_5_ := c_5
      have hn0 : ¬ (a = 0 ∧ b = 0) := by omega
      refine lv_iload_n (pc := 10) hx hb dX1_sectorOf_10 rfl (lv_at hl 0 rfl) ?_
      refine lv_iload_n (pc := 11) hx hb dX1_sectorOf_11 rfl (lv_at hl 1 rfl) ?_
      refine c_callS (pc := 12) (y := yX1_quarterOf) (As := [.int (iv a), .int (iv b)]) (rest := []) hC hE hP hD hS hl.1 (c_L_quarterOf l ε ws (a) (b) ra rb) m_11_21 m_11_22 m_4_8 m_11_23 hd_yX1_quarterOf rfl ⟨⟨by decide, by decide⟩, by decide, by decide⟩ (Nat.le_of_ble_eq_true rfl) rfl dX1_sectorOf_12 kxN (fun v ws1 H locs hq hP hD hS => ?_)
      rw [hq.2] at hP hD
      rw [hq.1]
      dsimp only [Option.toList, List.cons_append, List.nil_append]
      refine lv_istore_n (lv' := [(2, .int (iv (qrt a b))), (0, .int (iv a)), (1, .int (iv b))]) (pc := 15) hx hb dX1_sectorOf_15 rfl hl (by decide) rfl (fun ls hl => ?_)
      have lp_33 : ∀ (al : Int) (ha : al = if qrt a b % 2 = 0 then ab a else ab b), ∀ (H : Heap) (locs : List Loc) (ls : Array Slot), WP ε (ws) H → WD ε (ws) → WS ε s9.heap H locs → lv_has ls 5 [(0, .int (iv a)), (1, .int (iv b)), (2, .int (iv (qrt a b)))] → W p9 l e9 rm_c_L_sectorOf s9 m9 a9 bl9 me9 c9 H locs 0 0 Q9 (F0 m9 33 ls [.int (iv al)]) := by
        intro al ha H locs ls hP hD hS hl
        refine lv_istore_n (lv' := [(3, .int (iv al)), (0, .int (iv a)), (1, .int (iv b)), (2, .int (iv (qrt a b)))]) (pc := 33) hx hb dX1_sectorOf_33 rfl hl (by decide) rfl (fun ls hl => ?_)
        have lp_51 : ∀ (cr : Int) (hc : cr = if qrt a b % 2 = 0 then ab b else ab a), ∀ (H : Heap) (locs : List Loc) (ls : Array Slot), WP ε (ws) H → WD ε (ws) → WS ε s9.heap H locs → lv_has ls 5 [(0, .int (iv a)), (1, .int (iv b)), (2, .int (iv (qrt a b))), (3, .int (iv al))] → W p9 l e9 rm_c_L_sectorOf s9 m9 a9 bl9 me9 c9 H locs 0 0 Q9 (F0 m9 51 ls [.int (iv cr)]) := by
          intro cr hc H locs ls hP hD hS hl
          have haa := ab_bd (a := a)
          have hbb := ab_bd (a := b)
          have hmp : moreP a b ↔ al ≤ cr := by rw [ha, hc]; unfold moreP; split <;> omega
          have hal : 0 ≤ al ∧ al ≤ 1000 := by rw [ha]; split <;> omega
          have hcr : 0 ≤ cr ∧ cr ≤ 1000 := by rw [hc]; split <;> omega
          refine lv_istore (lv' := [(4, .int (iv cr)), (0, .int (iv a)), (1, .int (iv b)), (2, .int (iv (qrt a b))), (3, .int (iv al))]) (pc := 51) hx hb dX1_sectorOf_51 hl (by decide) rfl (fun ls hl => ?_)
          refine lv_iload (pc := 53) hx hb dX1_sectorOf_53 (lv_at hl 0 rfl) ?_
          refine lv_iload_n (pc := 55) hx hb dX1_sectorOf_55 rfl (lv_at hl 4 rfl) ?_
          refine r_icmp_lt (pc := 56) (a := cr) (b := al) hx hb dX1_sectorOf_56 (tgt := 67) (by decide) ⟨by omega, by omega⟩ ⟨by omega, by omega⟩ (fun c_56 => ?_) (fun c_56 => ?_)
          · have c_56_ := c_56
            refine lv_iconst (pc := 67) (v := iv 2) hx hb dX1_sectorOf_67 rfl ?_
            refine lv_iload_n (pc := 68) hx hb dX1_sectorOf_68 rfl (lv_at hl 3 rfl) ?_
            refine r_imul (pc := 69) (a := 2) (b := qrt a b) hx hb dX1_sectorOf_69 ?_
            have hres : 2 * (qrt a b) = sectP a b := by unfold sectP; rw [if_neg hn0, tb_f (fun z => by have z1 := hmp.mp z; omega)]; simp only [bz_t, bz_f] <;> omega
            refine c_iret (pc := 70) hC hQ hP hD hS (by decide) (by decide) dX1_sectorOf_70 ?_
            exact ⟨congrArg (fun z => some (Value.int (iv z))) hres, rfl⟩
          · have c_56_ := c_56
            refine lv_iconst (pc := 59) (v := iv 2) hx hb dX1_sectorOf_59 rfl ?_
            refine lv_iload_n (pc := 60) hx hb dX1_sectorOf_60 rfl (lv_at hl 3 rfl) ?_
            refine r_imul (pc := 61) (a := 2) (b := qrt a b) hx hb dX1_sectorOf_61 ?_
            refine lv_iconst (pc := 62) (v := iv 1) hx hb dX1_sectorOf_62 rfl ?_
            refine r_iadd (pc := 63) (a := 2 * (qrt a b)) (b := 1) hx hb dX1_sectorOf_63 ?_
            refine lv_goto (pc := 64) (tgt := 70) hx hb dX1_sectorOf_64 (by decide) ?_
            have hres : (2 * (qrt a b)) + 1 = sectP a b := by unfold sectP; rw [if_neg hn0, tb_t (hmp.mpr (by omega))]; simp only [bz_t, bz_f] <;> omega
            refine c_iret (pc := 70) hC hQ hP hD hS (by decide) (by decide) dX1_sectorOf_70 ?_
            exact ⟨congrArg (fun z => some (Value.int (iv z))) hres, rfl⟩
        refine lv_iload_n (pc := 34) hx hb dX1_sectorOf_34 rfl (lv_at hl 3 rfl) ?_
        refine lv_iconst (pc := 35) (v := iv 2) hx hb dX1_sectorOf_35 rfl ?_
        refine r_irem (pc := 36) (a := qrt a b) (b := 2) hx hb dX1_sectorOf_36 ⟨⟨by omega, by omega⟩, by omega, by omega⟩ ?_
        have hm_36 := Int.emod_nonneg (qrt a b) (show 2 ≠ 0 by omega)
        have hn_36 := Int.emod_lt_of_pos (qrt a b) (show 0 < 2 by omega)
        refine r_if_ne (pc := 37) (a := (qrt a b) % 2) hx hb dX1_sectorOf_37 (tgt := 47) (by decide) ⟨by omega, by omega⟩ (fun c_37 => ?_) (fun c_37 => ?_)
        · have c_37_ := c_37
          refine lv_iload_n (pc := 47) hx hb dX1_sectorOf_47 rfl (lv_at hl 1 rfl) ?_
          refine va_mabs (pc := 48) (x := iv a) hx hb (hC.2.2.1.trans hl.1.symm) (own := RX1) hC.2.2.2.1 (hC.2.2.2.2.1 _ m_11_18) (hC.2.2.2.2.1 _ m_11_19) (hC.2.2.2.2.1 _ m_6_3) (hC.2.2.2.2.1 _ m_11_20) (by decide) (Nat.le_of_ble_eq_true rfl) (by decide) (by decide) dX1_sectorOf_48 ?_
          rw [iv_abs ⟨by omega, by omega⟩]
          have hab_48 := ab_bd (a := a)
          exact lp_51 (ab a) (by rw [if_neg c_37]) _ _ _ hP hD hS (lv_sub hl [1, 2, 3, 0] rfl)
        · have c_37_ := c_37
          refine lv_iload_n (pc := 40) hx hb dX1_sectorOf_40 rfl (lv_at hl 2 rfl) ?_
          refine va_mabs (pc := 41) (x := iv b) hx hb (hC.2.2.1.trans hl.1.symm) (own := RX1) hC.2.2.2.1 (hC.2.2.2.2.1 _ m_11_18) (hC.2.2.2.2.1 _ m_11_19) (hC.2.2.2.2.1 _ m_6_3) (hC.2.2.2.2.1 _ m_11_20) (by decide) (Nat.le_of_ble_eq_true rfl) (by decide) (by decide) dX1_sectorOf_41 ?_
          rw [iv_abs ⟨by omega, by omega⟩]
          have hab_41 := ab_bd (a := b)
          refine lv_goto (pc := 44) (tgt := 51) hx hb dX1_sectorOf_44 (by decide) ?_
          exact lp_51 (ab b) (by rw [if_pos c_37]) _ _ _ hP hD hS (lv_sub hl [1, 2, 3, 0] rfl)
      refine lv_iload_n (pc := 16) hx hb dX1_sectorOf_16 rfl (lv_at hl 0 rfl) ?_
      refine lv_iconst (pc := 17) (v := iv 2) hx hb dX1_sectorOf_17 rfl ?_
      refine r_irem (pc := 18) (a := qrt a b) (b := 2) hx hb dX1_sectorOf_18 ⟨⟨by omega, by omega⟩, by omega, by omega⟩ ?_
      have hm_18 := Int.emod_nonneg (qrt a b) (show 2 ≠ 0 by omega)
      have hn_18 := Int.emod_lt_of_pos (qrt a b) (show 0 < 2 by omega)
      refine r_if_ne (pc := 19) (a := (qrt a b) % 2) hx hb dX1_sectorOf_19 (tgt := 29) (by decide) ⟨by omega, by omega⟩ (fun c_19 => ?_) (fun c_19 => ?_)
      · have c_19_ := c_19
        refine lv_iload_n (pc := 29) hx hb dX1_sectorOf_29 rfl (lv_at hl 2 rfl) ?_
        refine va_mabs (pc := 30) (x := iv b) hx hb (hC.2.2.1.trans hl.1.symm) (own := RX1) hC.2.2.2.1 (hC.2.2.2.2.1 _ m_11_18) (hC.2.2.2.2.1 _ m_11_19) (hC.2.2.2.2.1 _ m_6_3) (hC.2.2.2.2.1 _ m_11_20) (by decide) (Nat.le_of_ble_eq_true rfl) (by decide) (by decide) dX1_sectorOf_30 ?_
        rw [iv_abs ⟨by omega, by omega⟩]
        have hab_30 := ab_bd (a := b)
        exact lp_33 (ab b) (by rw [if_neg c_19]) _ _ _ hP hD hS (lv_sub hl [1, 2, 0] rfl)
      · have c_19_ := c_19
        refine lv_iload_n (pc := 22) hx hb dX1_sectorOf_22 rfl (lv_at hl 1 rfl) ?_
        refine va_mabs (pc := 23) (x := iv a) hx hb (hC.2.2.1.trans hl.1.symm) (own := RX1) hC.2.2.2.1 (hC.2.2.2.2.1 _ m_11_18) (hC.2.2.2.2.1 _ m_11_19) (hC.2.2.2.2.1 _ m_6_3) (hC.2.2.2.2.1 _ m_11_20) (by decide) (Nat.le_of_ble_eq_true rfl) (by decide) (by decide) dX1_sectorOf_23 ?_
        rw [iv_abs ⟨by omega, by omega⟩]
        have hab_23 := ab_bd (a := a)
        refine lv_goto (pc := 26) (tgt := 33) hx hb dX1_sectorOf_26 (by decide) ?_
        exact lp_33 (ab a) (by rw [if_pos c_19]) _ _ _ hP hD hS (lv_sub hl [1, 2, 0] rfl)
    · have c_5_ := c_5
      have hres : (-1 : Int) = sectP a b := by unfold sectP; rw [if_pos ⟨by omega, by omega⟩]
      refine lv_iconst (pc := 8) (v := iv (-1)) hx hb dX1_sectorOf_8 rfl ?_
      refine c_iret (pc := 9) hC hQ hP hD hS (by decide) (by decide) dX1_sectorOf_9 ?_
      exact ⟨congrArg (fun z => some (Value.int (iv z))) hres, rfl⟩

abbrev rm_c_L_isWithin : Room := { frames := 2, cells := 0, slots := 0, locals := 60 }
set_option maxRecDepth 100000 in
set_option maxHeartbeats 4000000 in
theorem c_L_isWithin (l : Launch) (ε : EV) (ws : va_W) (a b r se : Int) (ra : -1000 ≤ a ∧ a ≤ 1000) (rb : -1000 ≤ b ∧ b ≤ 1000) (rr : 1 ≤ r ∧ r ≤ 40) (rs : 1 ≤ se ∧ se ≤ 255) : CT l yX1_isWithin cX1_isWithin 5 (some .boolean) rm_c_L_isWithin ε [.int (iv a), .int (iv b), .int (iv r), .int (iv se)] (ws) (fun v w => v = some (.int (iv (bz (tb (WITHIN a b r se))))) ∧ w = ws) NX := by
  refine CT.intro (by decide +kernel) (Nat.le_of_ble_eq_true rfl) ?_
  intro p9 e9 s9 m9 a9 bl9 me9 c9 ls Q9 hC hE hP hD hl hQ
  have hx := hC.1
  have hb := hC.2.1
  have hK := hE.K
  have hS : WS ε s9.heap s9.heap [] := va_S.rf
  have hl : lv_has ls 5 [(0, .int (iv a)), (1, .int (iv b)), (2, .int (iv r)), (3, .int (iv se))] := hl
  obtain ⟨H, hH⟩ : ∃ H, H = s9.heap := ⟨_, rfl⟩
  obtain ⟨locs, hlo⟩ : ∃ z : List Loc, z = [] := ⟨_, rfl⟩
  rw [← hH] at hP ⊢
  have hS : WS ε s9.heap H locs := by rw [hH, hlo]; exact hS
  rw [← hlo]
  clear hH hlo
  have haa := ab_bd (a := a)
  have hbb := ab_bd (a := b)
  have hsb := sectP_bd a b
  refine lv_iload_n (pc := 0) hx hb dX1_isWithin_0 rfl (lv_at hl 0 rfl) ?_
  refine va_mabs (pc := 1) (x := iv a) hx hb (hC.2.2.1.trans hl.1.symm) (own := RX1) hC.2.2.2.1 (hC.2.2.2.2.1 _ m_11_18) (hC.2.2.2.2.1 _ m_11_19) (hC.2.2.2.2.1 _ m_6_3) (hC.2.2.2.2.1 _ m_11_20) (by decide) (Nat.le_of_ble_eq_true rfl) (by decide) (by decide) dX1_isWithin_1 ?_
  rw [iv_abs ⟨by omega, by omega⟩]
  have hab_1 := ab_bd (a := a)
  refine lv_iload_n (pc := 4) hx hb dX1_isWithin_4 rfl (lv_at hl 2 rfl) ?_
  refine r_icmp_gt (pc := 5) (a := ab a) (b := r) hx hb dX1_isWithin_5 (tgt := 16) (by decide) ⟨by omega, by omega⟩ ⟨by omega, by omega⟩ (fun c_5 => ?_) (fun c_5 => ?_)
  · have c_5_ := c_5
    refine lv_iconst (pc := 16) (v := iv 0) hx hb dX1_isWithin_16 rfl ?_
    refine c_zret (pc := 17) hC hQ hP hD hS (by decide) (by decide) dX1_isWithin_17 nz_0 ?_
    exact ⟨congrArg (fun z => some (Value.int z)) (bz_0 (tb_f (fun z => by obtain ⟨⟨z1, z2⟩, z3⟩ := z; omega))), rfl⟩
  · have c_5_ := c_5
    refine lv_iload_n (pc := 8) hx hb dX1_isWithin_8 rfl (lv_at hl 1 rfl) ?_
    refine va_mabs (pc := 9) (x := iv b) hx hb (hC.2.2.1.trans hl.1.symm) (own := RX1) hC.2.2.2.1 (hC.2.2.2.2.1 _ m_11_18) (hC.2.2.2.2.1 _ m_11_19) (hC.2.2.2.2.1 _ m_6_3) (hC.2.2.2.2.1 _ m_11_20) (by decide) (Nat.le_of_ble_eq_true rfl) (by decide) (by decide) dX1_isWithin_9 ?_
    rw [iv_abs ⟨by omega, by omega⟩]
    have hab_9 := ab_bd (a := b)
    refine lv_iload_n (pc := 12) hx hb dX1_isWithin_12 rfl (lv_at hl 2 rfl) ?_
    refine r_icmp_le (pc := 13) (a := ab b) (b := r) hx hb dX1_isWithin_13 (tgt := 18) (by decide) ⟨by omega, by omega⟩ ⟨by omega, by omega⟩ (fun c_13 => ?_) (fun c_13 => ?_)
    · have c_13_ := c_13
      refine lv_iload_n (pc := 18) hx hb dX1_isWithin_18 rfl (lv_at hl 0 rfl) ?_
      refine lv_iload_n (pc := 19) hx hb dX1_isWithin_19 rfl (lv_at hl 1 rfl) ?_
      refine c_callS (pc := 20) (y := yX1_sectorOf) (As := [.int (iv a), .int (iv b)]) (rest := []) hC hE hP hD hS hl.1 (c_L_sectorOf l ε ws (a) (b) ra rb) m_15_11 m_11_16 m_4_8 m_11_17 hd_yX1_sectorOf rfl ⟨⟨by decide, by decide⟩, by decide, by decide⟩ (Nat.le_of_ble_eq_true rfl) rfl dX1_isWithin_20 kxN (fun v ws1 H locs hq hP hD hS => ?_)
      rw [hq.2] at hP hD
      rw [hq.1]
      dsimp only [Option.toList, List.cons_append, List.nil_append]
      refine lv_istore (lv' := [(4, .int (iv (sectP a b))), (0, .int (iv a)), (1, .int (iv b)), (2, .int (iv r)), (3, .int (iv se))]) (pc := 23) hx hb dX1_isWithin_23 hl (by decide) rfl (fun ls hl => ?_)
      refine lv_iload (pc := 25) hx hb dX1_isWithin_25 (lv_at hl 0 rfl) ?_
      refine lv_iconst (pc := 27) (v := iv (-1)) hx hb dX1_isWithin_27 rfl ?_
      refine r_icmp_eq (pc := 28) (a := sectP a b) (b := (-1)) hx hb dX1_isWithin_28 (tgt := 41) (by decide) ⟨by omega, by omega⟩ ⟨by omega, by omega⟩ (fun c_28 => ?_) (fun c_28 => ?_)
      · have c_28_ := c_28
        refine lv_iconst (pc := 41) (v := iv 1) hx hb dX1_isWithin_41 rfl ?_
        refine lv_goto (pc := 42) (tgt := 46) hx hb dX1_isWithin_42 (by decide) ?_
        refine c_zret (pc := 46) hC hQ hP hD hS (by decide) (by decide) dX1_isWithin_46 nz_1 ?_
        exact ⟨congrArg (fun z => some (Value.int z)) (bz_1 (tb_t ⟨⟨by omega, by omega⟩, by omega⟩)), rfl⟩
      · have c_28_ := c_28
        refine lv_iload_n (pc := 31) hx hb dX1_isWithin_31 rfl (lv_at hl 4 rfl) ?_
        refine lv_iload (pc := 32) hx hb dX1_isWithin_32 (lv_at hl 0 rfl) ?_
        refine lv_iushr (pc := 34) (x := iv se) (y := iv (sectP a b)) (v := iv (se / 2 ^ (sectP a b).toNat)) hx hb dX1_isWithin_34 (iv_ushr ⟨by omega, by omega⟩ ⟨by omega, by omega⟩) ?_
        refine lv_iconst (pc := 35) (v := iv 1) hx hb dX1_isWithin_35 rfl ?_
        have hq_36 := ediv_bd (show 0 ≤ se ∧ se < 4294967296 by omega) ((sectP a b).toNat)
        refine lv_iand (pc := 36) (x := iv (se / 2 ^ (sectP a b).toNat)) (y := iv 1) hx hb dX1_isWithin_36 ?_
        rw [iv_and1w ⟨by omega, by omega⟩]
        have hm_36 := Int.emod_nonneg (se / 2 ^ (sectP a b).toNat) (show (2 : Int) ≠ 0 by omega)
        have hn_36 := Int.emod_lt_of_pos (se / 2 ^ (sectP a b).toNat) (show (0 : Int) < 2 by omega)
        refine lv_iconst (pc := 37) (v := iv 1) hx hb dX1_isWithin_37 rfl ?_
        refine r_icmp_ne (pc := 38) (a := (se / 2 ^ (sectP a b).toNat) % 2) (b := 1) hx hb dX1_isWithin_38 (tgt := 45) (by decide) ⟨by omega, by omega⟩ ⟨by omega, by omega⟩ (fun c_38 => ?_) (fun c_38 => ?_)
        · have c_38_ := c_38
          refine lv_iconst (pc := 45) (v := iv 0) hx hb dX1_isWithin_45 rfl ?_
          refine c_zret (pc := 46) hC hQ hP hD hS (by decide) (by decide) dX1_isWithin_46 nz_0 ?_
          exact ⟨congrArg (fun z => some (Value.int z)) (bz_0 (tb_f (fun z => by obtain ⟨⟨z1, z2⟩, z3⟩ := z; omega))), rfl⟩
        · have c_38_ := c_38
          refine lv_iconst (pc := 41) (v := iv 1) hx hb dX1_isWithin_41 rfl ?_
          refine lv_goto (pc := 42) (tgt := 46) hx hb dX1_isWithin_42 (by decide) ?_
          refine c_zret (pc := 46) hC hQ hP hD hS (by decide) (by decide) dX1_isWithin_46 nz_1 ?_
          exact ⟨congrArg (fun z => some (Value.int z)) (bz_1 (tb_t ⟨⟨by omega, by omega⟩, by omega⟩)), rfl⟩
    · have c_13_ := c_13
      refine lv_iconst (pc := 16) (v := iv 0) hx hb dX1_isWithin_16 rfl ?_
      refine c_zret (pc := 17) hC hQ hP hD hS (by decide) (by decide) dX1_isWithin_17 nz_0 ?_
      exact ⟨congrArg (fun z => some (Value.int z)) (bz_0 (tb_f (fun z => by obtain ⟨⟨z1, z2⟩, z3⟩ := z; omega))), rfl⟩

abbrev rm_c_L_canBeSeenFrom : Room := { frames := 0, cells := 0, slots := 0, locals := 0 }
set_option maxRecDepth 100000 in
set_option maxHeartbeats 4000000 in
theorem c_L_canBeSeenFrom (l : Launch) (ε : EV) (ws : va_W) (a si : Nat) (lx ly pt bg fl : Int) (V : Int → Int → Prop) (hia : In ws a (oLa lx ly si pt bg fl)) (g9 : Nat → Int) (his : In ws si (eI ε 32 g9)) (hg : ∀ j : Nat, j < 32 → g9 j = BW (V j) 32) (col row : Int) (rc : rg col) (rw9 : rg row) : CT l yX1_canBeSeenFrom cX1_canBeSeenFrom 3 (some .boolean) rm_c_L_canBeSeenFrom ε [.ref a, .int (iv col), .int (iv row)] (ws) (fun v w => v = some (.int (iv (bz (tb (((0 ≤ row ∧ row < 32) ∧ 0 ≤ col ∧ col < 32) ∧ V row col))))) ∧ w = ws) NX := by
  refine CT.intro (by decide +kernel) (Nat.le_of_ble_eq_true rfl) ?_
  intro p9 e9 s9 m9 a9 bl9 me9 c9 ls Q9 hC hE hP hD hl hQ
  have hx := hC.1
  have hb := hC.2.1
  have hK := hE.K
  have hS : WS ε s9.heap s9.heap [] := va_S.rf
  have hl : lv_has ls 3 [(0, .ref a), (1, .int (iv col)), (2, .int (iv row))] := hl
  obtain ⟨H, hH⟩ : ∃ H, H = s9.heap := ⟨_, rfl⟩
  obtain ⟨locs, hlo⟩ : ∃ z : List Loc, z = [] := ⟨_, rfl⟩
  rw [← hH] at hP ⊢
  have hS : WS ε s9.heap H locs := by rw [hH, hlo]; exact hS
  rw [← hlo]
  clear hH hlo
  refine lv_iload_n (pc := 0) hx hb dX1_canBeSeenFrom_0 rfl (lv_at hl 2 rfl) ?_
  refine r_if_lt (pc := 1) (a := row) hx hb dX1_canBeSeenFrom_1 (tgt := 23) (by decide) ⟨by omega, by omega⟩ (fun c_1 => ?_) (fun c_1 => ?_)
  · have c_1_ := c_1
    refine lv_iconst (pc := 23) (v := iv 0) hx hb dX1_canBeSeenFrom_23 rfl ?_
    refine c_zret (pc := 24) hC hQ hP hD hS (by decide) (by decide) dX1_canBeSeenFrom_24 nz_0 ?_
    exact ⟨congrArg (fun z => some (Value.int z)) (bz_0 (tb_f (fun z => by have z1 := z.1; omega))), rfl⟩
  · have c_1_ := c_1
    refine lv_iload_n (pc := 4) hx hb dX1_canBeSeenFrom_4 rfl (lv_at hl 2 rfl) ?_
    refine lv_aload_n (pc := 5) hx hb dX1_canBeSeenFrom_5 rfl (lv_at hl 0 rfl) ?_
    refine r_get (pc := 6) hC hK hP hia (hc := rfl) (fun w h => wt_4 w h) 2 (by decide) m_4_10 (fun _ h => h) (v := .ref si) rfl dX1_canBeSeenFrom_6 ?_
    refine r_alenI (pc := 9) hC hK hP his dX1_canBeSeenFrom_9 ?_
    refine r_icmp_ge (pc := 10) (a := row) (b := (32 : Int)) hx hb dX1_canBeSeenFrom_10 (tgt := 23) (by decide) ⟨by omega, by omega⟩ ⟨by omega, by omega⟩ (fun c_10 => ?_) (fun c_10 => ?_)
    · have c_10_ := c_10
      refine lv_iconst (pc := 23) (v := iv 0) hx hb dX1_canBeSeenFrom_23 rfl ?_
      refine c_zret (pc := 24) hC hQ hP hD hS (by decide) (by decide) dX1_canBeSeenFrom_24 nz_0 ?_
      exact ⟨congrArg (fun z => some (Value.int z)) (bz_0 (tb_f (fun z => by have z1 := z.1; omega))), rfl⟩
    · have c_10_ := c_10
      refine lv_iload_n (pc := 13) hx hb dX1_canBeSeenFrom_13 rfl (lv_at hl 1 rfl) ?_
      refine r_if_lt (pc := 14) (a := col) hx hb dX1_canBeSeenFrom_14 (tgt := 23) (by decide) ⟨by omega, by omega⟩ (fun c_14 => ?_) (fun c_14 => ?_)
      · have c_14_ := c_14
        refine lv_iconst (pc := 23) (v := iv 0) hx hb dX1_canBeSeenFrom_23 rfl ?_
        refine c_zret (pc := 24) hC hQ hP hD hS (by decide) (by decide) dX1_canBeSeenFrom_24 nz_0 ?_
        exact ⟨congrArg (fun z => some (Value.int z)) (bz_0 (tb_f (fun z => by have z1 := z.1; omega))), rfl⟩
      · have c_14_ := c_14
        refine lv_iload_n (pc := 17) hx hb dX1_canBeSeenFrom_17 rfl (lv_at hl 1 rfl) ?_
        refine lv_bipush (pc := 18) (v := iv 32) hx hb dX1_canBeSeenFrom_18 (by decide) ?_
        refine r_icmp_lt (pc := 20) (a := col) (b := 32) hx hb dX1_canBeSeenFrom_20 (tgt := 25) (by decide) ⟨by omega, by omega⟩ ⟨by omega, by omega⟩ (fun c_20 => ?_) (fun c_20 => ?_)
        · have c_20_ := c_20
          refine lv_aload_n (pc := 25) hx hb dX1_canBeSeenFrom_25 rfl (lv_at hl 0 rfl) ?_
          refine r_get (pc := 26) hC hK hP hia (hc := rfl) (fun w h => wt_4 w h) 2 (by decide) m_4_10 (fun _ h => h) (v := .ref si) rfl dX1_canBeSeenFrom_26 ?_
          refine lv_iload_n (pc := 29) hx hb dX1_canBeSeenFrom_29 rfl (lv_at hl 2 rfl) ?_
          refine r_iald (pc := 30) (z := row) hC hK hP his ⟨by omega, by omega, by decide⟩ dX1_canBeSeenFrom_30 ?_
          rw [hg row.toNat (by omega)]
          have hw_30 := BW_iv (V ((row.toNat : Nat) : Int))
          refine lv_iload_n (pc := 31) hx hb dX1_canBeSeenFrom_31 rfl (lv_at hl 1 rfl) ?_
          refine lv_iushr (pc := 32) (x := iv (BW (V ((row.toNat : Nat) : Int)) 32)) (y := iv col) (v := iv ((BW (V ((row.toNat : Nat) : Int)) 32) / 2 ^ col.toNat)) hx hb dX1_canBeSeenFrom_32 (iv_ushr ⟨by omega, by omega⟩ ⟨by omega, by omega⟩) ?_
          refine lv_iconst (pc := 33) (v := iv 1) hx hb dX1_canBeSeenFrom_33 rfl ?_
          have hq_34 := ediv_bd hw_30 col.toNat
          refine lv_iand (pc := 34) (x := iv ((BW (V ((row.toNat : Nat) : Int)) 32) / 2 ^ col.toNat)) (y := iv 1) hx hb dX1_canBeSeenFrom_34 ?_
          rw [iv_and1w ⟨by omega, by omega⟩]
          have hm_34 := Int.emod_nonneg ((BW (V ((row.toNat : Nat) : Int)) 32) / 2 ^ col.toNat) (show (2 : Int) ≠ 0 by omega)
          have hn_34 := Int.emod_lt_of_pos ((BW (V ((row.toNat : Nat) : Int)) 32) / 2 ^ col.toNat) (show (0 : Int) < 2 by omega)
          refine lv_iconst (pc := 35) (v := iv 1) hx hb dX1_canBeSeenFrom_35 rfl ?_
          refine r_icmp_ne (pc := 36) (a := ((BW (V ((row.toNat : Nat) : Int)) 32) / 2 ^ col.toNat) % 2) (b := 1) hx hb dX1_canBeSeenFrom_36 (tgt := 43) (by decide) ⟨by omega, by omega⟩ ⟨by omega, by omega⟩ (fun c_36 => ?_) (fun c_36 => ?_)
          · have c_36_ := c_36
            have hbt : BW (V ((row.toNat : Nat) : Int)) 32 / 2 ^ col.toNat % 2 = 1 ↔ V row col := by have z := BW.BT (P := V ((row.toNat : Nat) : Int)) (n := 32) (k := col) (by omega) (by omega); rw [← nt (show 0 ≤ row by omega)] at z ⊢; exact z
            refine lv_iconst (pc := 43) (v := iv 0) hx hb dX1_canBeSeenFrom_43 rfl ?_
            refine c_zret (pc := 44) hC hQ hP hD hS (by decide) (by decide) dX1_canBeSeenFrom_44 nz_0 ?_
            exact ⟨congrArg (fun z => some (Value.int z)) (bz_0 (tb_f (fun z => by have z1 := hbt.mpr z.2; omega))), rfl⟩
          · have c_36_ := c_36
            have hbt : BW (V ((row.toNat : Nat) : Int)) 32 / 2 ^ col.toNat % 2 = 1 ↔ V row col := by have z := BW.BT (P := V ((row.toNat : Nat) : Int)) (n := 32) (k := col) (by omega) (by omega); rw [← nt (show 0 ≤ row by omega)] at z ⊢; exact z
            refine lv_iconst (pc := 39) (v := iv 1) hx hb dX1_canBeSeenFrom_39 rfl ?_
            refine lv_goto (pc := 40) (tgt := 44) hx hb dX1_canBeSeenFrom_40 (by decide) ?_
            refine c_zret (pc := 44) hC hQ hP hD hS (by decide) (by decide) dX1_canBeSeenFrom_44 nz_1 ?_
            exact ⟨congrArg (fun z => some (Value.int z)) (bz_1 (tb_t ⟨by omega, hbt.mp (by omega)⟩)), rfl⟩
        · have c_20_ := c_20
          refine lv_iconst (pc := 23) (v := iv 0) hx hb dX1_canBeSeenFrom_23 rfl ?_
          refine c_zret (pc := 24) hC hQ hP hD hS (by decide) (by decide) dX1_canBeSeenFrom_24 nz_0 ?_
          exact ⟨congrArg (fun z => some (Value.int z)) (bz_0 (tb_f (fun z => by have z1 := z.1; omega))), rfl⟩

abbrev rm_c_L_placesSharedWith : Room := { frames := 1, cells := 0, slots := 0, locals := 30 }
set_option maxRecDepth 100000 in
set_option maxHeartbeats 4000000 in
theorem c_L_placesSharedWith (l : Launch) (ε : EV) (ws : va_W) (a si : Nat) (lx ly pt bg fl : Int) (V : Int → Int → Prop) (hia : In ws a (oLa lx ly si pt bg fl)) (g9 : Nat → Int) (his : In ws si (eI ε 32 g9)) (hg : ∀ j : Nat, j < 32 → g9 j = BW (V j) 32) (a2 si2 : Nat) (lx2 ly2 pt2 bg2 fl2 : Int) (V2 : Int → Int → Prop) (hia2 : In ws a2 (oLa lx2 ly2 si2 pt2 bg2 fl2)) (g92 : Nat → Int) (his2 : In ws si2 (eI ε 32 g92)) (hg2 : ∀ j : Nat, j < 32 → g92 j = BW (V2 j) 32) : CT l yX1_placesSharedWith cX1_placesSharedWith 4 (some .int) rm_c_L_placesSharedWith ε [.ref a, .ref a2] (ws) (fun v w => v = some (.int (iv (SHARE V V2))) ∧ w = ws) NX := by
  refine CT.intro (by decide +kernel) (Nat.le_of_ble_eq_true rfl) ?_
  intro p9 e9 s9 m9 a9 bl9 me9 c9 ls Q9 hC hE hP hD hl hQ
  have hx := hC.1
  have hb := hC.2.1
  have hK := hE.K
  have hS : WS ε s9.heap s9.heap [] := va_S.rf
  have hl : lv_has ls 4 [(0, .ref a), (1, .ref a2)] := hl
  obtain ⟨H, hH⟩ : ∃ H, H = s9.heap := ⟨_, rfl⟩
  obtain ⟨locs, hlo⟩ : ∃ z : List Loc, z = [] := ⟨_, rfl⟩
  rw [← hH] at hP ⊢
  have hS : WS ε s9.heap H locs := by rw [hH, hlo]; exact hS
  rw [← hlo]
  clear hH hlo
  refine lv_iconst (pc := 0) (v := iv 0) hx hb dX1_placesSharedWith_0 rfl ?_
  refine lv_istore_n (lv' := [(2, .int (iv 0)), (0, .ref a), (1, .ref a2)]) (pc := 1) hx hb dX1_placesSharedWith_1 rfl hl (by decide) rfl (fun ls hl => ?_)
  refine lv_iconst (pc := 2) (v := iv 0) hx hb dX1_placesSharedWith_2 rfl ?_
  refine lv_istore_n (lv' := [(3, .int (iv 0)), (2, .int (iv 0)), (0, .ref a), (1, .ref a2)]) (pc := 3) hx hb dX1_placesSharedWith_3 rfl hl (by decide) rfl (fun ls hl => ?_)
  have lp_4 : ∀ (k9 : Nat) (nn : Int) (k : Int) (hk : 0 ≤ k ∧ k ≤ 32) (hn : nn = SUMF (fun row => CNT (fun u => V row u ∧ V2 row u) 32) k.toNat) , ((32 - k).toNat) < k9 → ∀ (H : Heap) (locs : List Loc) (ls : Array Slot), WP ε (ws) H → WD ε (ws) → WS ε s9.heap H locs → lv_has ls 4 [(0, .ref a), (1, .ref a2), (2, .int (iv nn)), (3, .int (iv k))] → W p9 l e9 rm_c_L_placesSharedWith s9 m9 a9 bl9 me9 c9 H locs 0 0 Q9 (F0 m9 4 ls []) := by
    intro k9
    induction k9 with
    | zero => intro nn k hk hn h9; exact absurd h9 (Nat.not_lt_zero _)
    | succ k9 ih_4 =>
      intro nn k hk hn h9 H locs ls hP hD hS hl
      refine lv_iload_n (pc := 4) hx hb dX1_placesSharedWith_4 rfl (lv_at hl 3 rfl) ?_
      refine lv_aload_n (pc := 5) hx hb dX1_placesSharedWith_5 rfl (lv_at hl 0 rfl) ?_
      refine r_get (pc := 6) hC hK hP hia (hc := rfl) (fun w h => wt_4 w h) 2 (by decide) m_4_10 (fun _ h => h) (v := .ref si) rfl dX1_placesSharedWith_6 ?_
      refine r_alenI (pc := 9) hC hK hP his dX1_placesSharedWith_9 ?_
      refine r_icmp_ge (pc := 10) (a := k) (b := (32 : Int)) hx hb dX1_placesSharedWith_10 (tgt := 47) (by decide) ⟨by omega, by omega⟩ ⟨by omega, by omega⟩ (fun c_10 => ?_) (fun c_10 => ?_)
      · have c_10_ := c_10
        have hres : nn = SHARE V V2 := by rw [hn, show k.toNat = 32 by omega]; rfl
        refine lv_iload_n (pc := 47) hx hb dX1_placesSharedWith_47 rfl (lv_at hl 2 rfl) ?_
        refine c_iret (pc := 48) hC hQ hP hD hS (by decide) (by decide) dX1_placesSharedWith_48 ?_
        exact ⟨congrArg (fun z => some (Value.int (iv z))) hres, rfl⟩
      · have c_10_ := c_10
        refine lv_iload_n (pc := 13) hx hb dX1_placesSharedWith_13 rfl (lv_at hl 3 rfl) ?_
        refine lv_aload_n (pc := 14) hx hb dX1_placesSharedWith_14 rfl (lv_at hl 1 rfl) ?_
        refine r_get (pc := 15) hC hK hP hia2 (hc := rfl) (fun w h => wt_4 w h) 2 (by decide) m_4_10 (fun _ h => h) (v := .ref si2) rfl dX1_placesSharedWith_15 ?_
        refine r_alenI (pc := 18) hC hK hP his2 dX1_placesSharedWith_18 ?_
        refine r_icmp_ge (pc := 19) (a := k) (b := (32 : Int)) hx hb dX1_placesSharedWith_19 (tgt := 47) (by decide) ⟨by omega, by omega⟩ ⟨by omega, by omega⟩ (fun c_19 => ?_) (fun c_19 => ?_)
        · have c_19_ := c_19
          have hres : nn = SHARE V V2 := by rw [hn, show k.toNat = 32 by omega]; rfl
          refine lv_iload_n (pc := 47) hx hb dX1_placesSharedWith_47 rfl (lv_at hl 2 rfl) ?_
          refine c_iret (pc := 48) hC hQ hP hD hS (by decide) (by decide) dX1_placesSharedWith_48 ?_
          exact ⟨congrArg (fun z => some (Value.int (iv z))) hres, rfl⟩
        · have c_19_ := c_19
          refine lv_iload_n (pc := 22) hx hb dX1_placesSharedWith_22 rfl (lv_at hl 2 rfl) ?_
          refine lv_aload_n (pc := 23) hx hb dX1_placesSharedWith_23 rfl (lv_at hl 0 rfl) ?_
          refine r_get (pc := 24) hC hK hP hia (hc := rfl) (fun w h => wt_4 w h) 2 (by decide) m_4_10 (fun _ h => h) (v := .ref si) rfl dX1_placesSharedWith_24 ?_
          refine lv_iload_n (pc := 27) hx hb dX1_placesSharedWith_27 rfl (lv_at hl 3 rfl) ?_
          refine r_iald (pc := 28) (z := k) hC hK hP his ⟨by omega, by omega, by decide⟩ dX1_placesSharedWith_28 ?_
          rw [hg k.toNat (by omega)]
          have hw_28 := BW_iv (V ((k.toNat : Nat) : Int))
          refine lv_aload_n (pc := 29) hx hb dX1_placesSharedWith_29 rfl (lv_at hl 1 rfl) ?_
          refine r_get (pc := 30) hC hK hP hia2 (hc := rfl) (fun w h => wt_4 w h) 2 (by decide) m_4_10 (fun _ h => h) (v := .ref si2) rfl dX1_placesSharedWith_30 ?_
          refine lv_iload_n (pc := 33) hx hb dX1_placesSharedWith_33 rfl (lv_at hl 3 rfl) ?_
          refine r_iald (pc := 34) (z := k) hC hK hP his2 ⟨by omega, by omega, by decide⟩ dX1_placesSharedWith_34 ?_
          rw [hg2 k.toNat (by omega)]
          have hw_34 := BW_iv (V2 ((k.toNat : Nat) : Int))
          refine lv_iand (pc := 35) (x := iv (BW (V ((k.toNat : Nat) : Int)) 32)) (y := iv (BW (V2 ((k.toNat : Nat) : Int)) 32)) hx hb dX1_placesSharedWith_35 ?_
          rw [BW_and]
          refine c_callS (pc := 36) (y := yJ6_bitCount_0f7a4) (As := [.int (iv (BW (fun u => V ((k.toNat : Nat) : Int) u ∧ V2 ((k.toNat : Nat) : Int) u) 32))]) (rest := [.int (iv nn)]) hC hE hP hD hS hl.1 (c_J_bitCount l ε ws (iv (BW (fun u => V ((k.toNat : Nat) : Int) u ∧ V2 ((k.toNat : Nat) : Int) u) 32))) m_4_11 m_4_12 m_4_13 m_4_14 hd_yJ6_bitCount_0f7a4 rfl ⟨⟨by decide, by decide⟩, by decide, by decide⟩ (Nat.le_of_ble_eq_true rfl) rfl dX1_placesSharedWith_36 kxN (fun v ws1 H locs hq hP hD hS => ?_)
          rw [hq.2] at hP hD
          rw [hq.1, BCx_BW]
          dsimp only [Option.toList, List.cons_append, List.nil_append]
          refine r_iadd (pc := 39) (a := nn) (b := CNT (fun u => V ((k.toNat : Nat) : Int) u ∧ V2 ((k.toNat : Nat) : Int) u) 32) hx hb dX1_placesSharedWith_39 ?_
          refine lv_istore_n (lv' := [(2, .int (iv (nn + (CNT (fun u => V ((k.toNat : Nat) : Int) u ∧ V2 ((k.toNat : Nat) : Int) u) 32)))), (0, .ref a), (1, .ref a2), (3, .int (iv k))]) (pc := 40) hx hb dX1_placesSharedWith_40 rfl hl (by decide) rfl (fun ls hl => ?_)
          refine lv_iinc (v := iv (k + 1)) (lv' := [(3, .int (iv (k + 1))), (2, .int (iv (nn + (CNT (fun u => V ((k.toNat : Nat) : Int) u ∧ V2 ((k.toNat : Nat) : Int) u) 32)))), (0, .ref a), (1, .ref a2)]) (pc := 41) hx hb dX1_placesSharedWith_41 hl (k := 3) rfl (iv_add _ _) (by decide) rfl (fun ls hl => ?_)
          refine lv_goto (pc := 44) (tgt := 4) hx hb dX1_placesSharedWith_44 (by decide) ?_
          exact ih_4 (nn + (CNT (fun u => V ((k.toNat : Nat) : Int) u ∧ V2 ((k.toNat : Nat) : Int) u) 32)) (k + 1) (by omega) (by rw [SUMF.succ hk.1, hn, ← nt hk.1]) (by omega) _ _ _ hP hD hS (lv_sub hl [2, 3, 1, 0] rfl)
  exact lp_4 _ 0 0 (by omega) rfl (Nat.lt_succ_self _) _ _ _ hP hD hS (lv_sub hl [2, 3, 1, 0] rfl)

abbrev rm_c_C_patternOf : Room := { frames := 0, cells := 0, slots := 0, locals := 0 }
set_option maxRecDepth 100000 in
set_option maxHeartbeats 4000000 in
theorem c_C_patternOf (l : Launch) (ε : EV) (ws : va_W) (a pa : Nat) (nt9 : Int) (S : Nat → Int) (hia : In ws a (oCh pa nt9)) (hip : In ws pa (eI ε 12 S)) (i : Int) (ri : 0 ≤ i ∧ i < 12) : CT l yX0_patternOf cX0_patternOf 2 (some .int) rm_c_C_patternOf ε [.ref a, .int (iv i)] (ws) (fun v w => v = some (.int (iv (S i.toNat))) ∧ w = ws) NX := by
  refine CT.intro (by decide +kernel) (Nat.le_of_ble_eq_true rfl) ?_
  intro p9 e9 s9 m9 a9 bl9 me9 c9 ls Q9 hC hE hP hD hl hQ
  have hx := hC.1
  have hb := hC.2.1
  have hK := hE.K
  have hS : WS ε s9.heap s9.heap [] := va_S.rf
  have hl : lv_has ls 2 [(0, .ref a), (1, .int (iv i))] := hl
  obtain ⟨H, hH⟩ : ∃ H, H = s9.heap := ⟨_, rfl⟩
  obtain ⟨locs, hlo⟩ : ∃ z : List Loc, z = [] := ⟨_, rfl⟩
  rw [← hH] at hP ⊢
  have hS : WS ε s9.heap H locs := by rw [hH, hlo]; exact hS
  rw [← hlo]
  clear hH hlo
  refine lv_iload_n (pc := 0) hx hb dX0_patternOf_0 rfl (lv_at hl 1 rfl) ?_
  refine r_if_lt (pc := 1) (a := i) hx hb dX0_patternOf_1 (tgt := 22) (by decide) ⟨by omega, by omega⟩ (fun c_1 => ?_) (fun c_1 => ?_)
  · have c_1_ := c_1
    omega
  · have c_1_ := c_1
    refine lv_iload_n (pc := 4) hx hb dX0_patternOf_4 rfl (lv_at hl 1 rfl) ?_
    refine lv_aload_n (pc := 5) hx hb dX0_patternOf_5 rfl (lv_at hl 0 rfl) ?_
    refine r_get (pc := 6) hC hK hP hia (hc := rfl) (fun w h => wt_6 w h) 0 (by decide) m_12_22 (fun _ h => h) (v := .ref pa) rfl dX0_patternOf_6 ?_
    refine r_alenI (pc := 9) hC hK hP hip dX0_patternOf_9 ?_
    refine r_icmp_ge (pc := 10) (a := i) (b := (12 : Int)) hx hb dX0_patternOf_10 (tgt := 22) (by decide) ⟨by omega, by omega⟩ ⟨by omega, by omega⟩ (fun c_10 => ?_) (fun c_10 => ?_)
    · have c_10_ := c_10
      omega
    · have c_10_ := c_10
      refine lv_aload_n (pc := 13) hx hb dX0_patternOf_13 rfl (lv_at hl 0 rfl) ?_
      refine r_get (pc := 14) hC hK hP hia (hc := rfl) (fun w h => wt_6 w h) 0 (by decide) m_12_22 (fun _ h => h) (v := .ref pa) rfl dX0_patternOf_14 ?_
      refine lv_iload_n (pc := 17) hx hb dX0_patternOf_17 rfl (lv_at hl 1 rfl) ?_
      refine r_iald (pc := 18) (z := i) hC hK hP hip ⟨by omega, by omega, by omega⟩ dX0_patternOf_18 ?_
      refine lv_goto (pc := 19) (tgt := 23) hx hb dX0_patternOf_19 (by decide) ?_
      refine c_iret (pc := 23) hC hQ hP hD hS (by decide) (by decide) dX0_patternOf_23 ?_
      exact ⟨rfl, rfl⟩
