abbrev rm_c_P_isLight : Room := { frames := 0, cells := 0, slots := 0, locals := 0 }
set_option maxRecDepth 100000 in
set_option maxHeartbeats 4000000 in
theorem c_P_isLight (l : Launch) (ε : EV) (ws : va_W) (a ph : Nat) (pe lg : Int) (D : Nat → Int) (c : Nat) (hia : In ws a (oPa pe lg ph)) (hv : PV (DP D) c pe) (hl9 : BITS D c pe lg) (t : Int) (ht : 0 ≤ t ∧ t < 1000000) : CT l yX3_isLight cX3_isLight 2 (some .boolean) rm_c_P_isLight ε [.ref a, .int (iv t)] (ws) (fun v w => v = some (.int (iv (bz (lt (DP D) c pe t)))) ∧ w = ws) NX := by
  refine CT.intro (by decide +kernel) (Nat.le_of_ble_eq_true rfl) ?_
  intro p9 e9 s9 m9 a9 bl9 me9 c9 ls Q9 hC hE hP hD hl hQ
  have hx := hC.1
  have hb := hC.2.1
  have hK := hE.K
  have hS : WS ε s9.heap s9.heap [] := va_S.rf
  have hl : lv_has ls 2 [(0, .ref a), (1, .int (iv t))] := hl
  obtain ⟨H, hH⟩ : ∃ H, H = s9.heap := ⟨_, rfl⟩
  obtain ⟨locs, hlo⟩ : ∃ z : List Loc, z = [] := ⟨_, rfl⟩
  rw [← hH] at hP ⊢
  have hS : WS ε s9.heap H locs := by rw [hH, hlo]; exact hS
  rw [← hlo]
  clear hH hlo
  have hper := hv.per
  have hlb := hl9.1
  have hpw : (2 : Int) ^ 60 = 1152921504606846976 := by decide
  refine lv_aload_n (pc := 0) hx hb dX3_isLight_0 rfl (lv_at hl 0 rfl) ?_
  refine r_get (pc := 1) hC hK hP hia (hc := rfl) (fun w h => wt_3 w h) 0 (by decide) m_6_13 (fun _ h => h) (v := .int (iv pe)) rfl dX3_isLight_1 ?_
  refine lv_iconst (pc := 4) (v := iv 1) hx hb dX3_isLight_4 rfl ?_
  refine r_icmp_lt (pc := 5) (a := pe) (b := 1) hx hb dX3_isLight_5 (tgt := 12) (by decide) ⟨by omega, by omega⟩ ⟨by omega, by omega⟩ (fun c_5 => ?_) (fun c_5 => ?_)
  · have c_5_ := c_5
    omega
  · have c_5_ := c_5
    refine lv_iload_n (pc := 8) hx hb dX3_isLight_8 rfl (lv_at hl 1 rfl) ?_
    refine r_if_ge (pc := 9) (a := t) hx hb dX3_isLight_9 (tgt := 14) (by decide) ⟨by omega, by omega⟩ (fun c_9 => ?_) (fun c_9 => ?_)
    · have c_9_ := c_9
      refine lv_aload_n (pc := 14) hx hb dX3_isLight_14 rfl (lv_at hl 0 rfl) ?_
      refine r_get (pc := 15) hC hK hP hia (hc := rfl) (fun w h => wt_3 w h) 1 (by decide) m_6_14 (fun _ h => h) (v := .long (jv lg)) rfl dX3_isLight_15 ?_
      refine lv_iload_n (pc := 18) hx hb dX3_isLight_18 rfl (lv_at hl 1 rfl) ?_
      refine lv_aload_n (pc := 19) hx hb dX3_isLight_19 rfl (lv_at hl 0 rfl) ?_
      refine r_get (pc := 20) hC hK hP hia (hc := rfl) (fun w h => wt_3 w h) 0 (by decide) m_6_13 (fun _ h => h) (v := .int (iv pe)) rfl dX3_isLight_20 ?_
      refine r_irem (pc := 23) (a := t) (b := pe) hx hb dX3_isLight_23 ⟨⟨by omega, by omega⟩, by omega, by omega⟩ ?_
      have hm_23 := Int.emod_nonneg t (show pe ≠ 0 by omega)
      have hn_23 := Int.emod_lt_of_pos t (show 0 < pe by omega)
      have hbt := hl9.2 (t % pe) hm_23 hn_23
      refine lv_lushr (pc := 24) (x := jv lg) (y := iv (t % pe)) (v := jv (lg / 2 ^ (t % pe).toNat)) hx hb dX3_isLight_24 (jv_shr ⟨by omega, by omega⟩ ⟨by omega, by omega⟩) ?_
      refine lv_lconst (pc := 25) (v := jv 1) hx hb dX3_isLight_25 (by decide) ?_
      have hq_26 := ediv_bd hlb ((t % pe).toNat)
      refine lv_land (pc := 26) (x := jv (lg / 2 ^ (t % pe).toNat)) (y := jv 1) hx hb dX3_isLight_26 ?_
      rw [jv_and1 ⟨by omega, by omega⟩]
      have hm_26 := Int.emod_nonneg (lg / 2 ^ (t % pe).toNat) (show (2 : Int) ≠ 0 by omega)
      have hn_26 := Int.emod_lt_of_pos (lg / 2 ^ (t % pe).toNat) (show (0 : Int) < 2 by omega)
      refine lv_lconst (pc := 27) (v := jv 1) hx hb dX3_isLight_27 (by decide) ?_
      refine W.lcmp (pc := 28) (x := jv ((lg / 2 ^ (t % pe).toNat) % 2)) (y := jv 1) hx hb dX3_isLight_28 ?_
      rw [lg_cmp_jv ⟨by omega, by omega⟩ ⟨by omega, by omega⟩]
      have hcm_28 := cmpI_z ((lg / 2 ^ (t % pe).toNat) % 2) 1
      refine r_if_ne (pc := 29) (a := cmpI ((lg / 2 ^ (t % pe).toNat) % 2) 1) hx hb dX3_isLight_29 (tgt := 36) (by decide) ⟨by omega, by omega⟩ (fun c_29 => ?_) (fun c_29 => ?_)
      · have c_29_ := c_29
        have hlt : lt (DP D) c pe t = true ↔ lg / 2 ^ (t % pe).toNat % 2 = 1 := hbt.symm
        refine lv_iconst (pc := 36) (v := iv 0) hx hb dX3_isLight_36 rfl ?_
        refine c_zret (pc := 37) hC hQ hP hD hS (by decide) (by decide) dX3_isLight_37 nz_0 ?_
        exact ⟨congrArg (fun z => some (Value.int z)) (bz_0 (Bool.eq_false_iff.mpr (fun z => by have z9 := hlt.mp z; omega))), rfl⟩
      · have c_29_ := c_29
        have hlt : lt (DP D) c pe t = true ↔ lg / 2 ^ (t % pe).toNat % 2 = 1 := hbt.symm
        refine lv_iconst (pc := 32) (v := iv 1) hx hb dX3_isLight_32 rfl ?_
        refine lv_goto (pc := 33) (tgt := 37) hx hb dX3_isLight_33 (by decide) ?_
        refine c_zret (pc := 37) hC hQ hP hD hS (by decide) (by decide) dX3_isLight_37 nz_1 ?_
        exact ⟨congrArg (fun z => some (Value.int z)) (bz_1 (hlt.mpr (by omega))), rfl⟩
    · have c_9_ := c_9
      omega

abbrev rm_c_P_hasPhasesTurned : Room := { frames := 0, cells := 0, slots := 0, locals := 0 }
set_option maxRecDepth 100000 in
set_option maxHeartbeats 4000000 in
theorem c_P_hasPhasesTurned (l : Launch) (ε : EV) (ws : va_W) (a ph : Nat) (pe lg : Int) (D : Nat → Int) (c : Nat) (hia : In ws a (oPa pe lg ph)) (hip : In ws ph (eI ε c D)) (ph2 : Nat) (D2 : Nat → Int) (c2 : Nat) (hip2 : In ws ph2 (eI ε c2 D2)) (hcc : c2 = c ∧ c ≤ 6) (t : Int) (ht : 0 ≤ t ∧ t < c) (hrD : ∀ k, rg (D k)) (hrD2 : ∀ k, rg (D2 k)) : CT l yX3_hasPhasesTurned cX3_hasPhasesTurned 4 (some .boolean) rm_c_P_hasPhasesTurned ε [.ref a, .ref ph2, .int (iv t)] (ws) (fun v w => v = some (.int (iv (bz (tb (TURN D D2 c t))))) ∧ w = ws) NX := by
  refine CT.intro (by decide +kernel) (Nat.le_of_ble_eq_true rfl) ?_
  intro p9 e9 s9 m9 a9 bl9 me9 c9 ls Q9 hC hE hP hD hl hQ
  have hx := hC.1
  have hb := hC.2.1
  have hK := hE.K
  have hS : WS ε s9.heap s9.heap [] := va_S.rf
  have hl : lv_has ls 4 [(0, .ref a), (1, .ref ph2), (2, .int (iv t))] := hl
  obtain ⟨H, hH⟩ : ∃ H, H = s9.heap := ⟨_, rfl⟩
  obtain ⟨locs, hlo⟩ : ∃ z : List Loc, z = [] := ⟨_, rfl⟩
  rw [← hH] at hP ⊢
  have hS : WS ε s9.heap H locs := by rw [hH, hlo]; exact hS
  rw [← hlo]
  clear hH hlo
  refine lv_iconst (pc := 0) (v := iv 0) hx hb dX3_hasPhasesTurned_0 rfl ?_
  refine lv_istore_n (lv' := [(3, .int (iv 0)), (0, .ref a), (1, .ref ph2), (2, .int (iv t))]) (pc := 1) hx hb dX3_hasPhasesTurned_1 rfl hl (by decide) rfl (fun ls hl => ?_)
  have lp_2 : ∀ (k9 : Nat) (i : Int) (hi : 0 ≤ i ∧ i ≤ c) (hal : ALLb (fun i => D (tn c t i).toNat = D2 i.toNat) i) , (((c : Int) - i).toNat) < k9 → ∀ (H : Heap) (locs : List Loc) (ls : Array Slot), WP ε (ws) H → WD ε (ws) → WS ε s9.heap H locs → lv_has ls 4 [(0, .ref a), (1, .ref ph2), (2, .int (iv t)), (3, .int (iv i))] → W p9 l e9 rm_c_P_hasPhasesTurned s9 m9 a9 bl9 me9 c9 H locs 0 0 Q9 (F0 m9 2 ls []) := by
    intro k9
    induction k9 with
    | zero => intro i hi hal h9; exact absurd h9 (Nat.not_lt_zero _)
    | succ k9 ih_2 =>
      intro i hi hal h9 H locs ls hP hD hS hl
      refine lv_iload_n (pc := 2) hx hb dX3_hasPhasesTurned_2 rfl (lv_at hl 3 rfl) ?_
      refine lv_aload_n (pc := 3) hx hb dX3_hasPhasesTurned_3 rfl (lv_at hl 0 rfl) ?_
      refine r_get (pc := 4) hC hK hP hia (hc := rfl) (fun w h => wt_3 w h) 2 (by decide) m_4_0 (fun _ h => h) (v := .ref ph) rfl dX3_hasPhasesTurned_4 ?_
      refine r_alenI (pc := 7) hC hK hP hip dX3_hasPhasesTurned_7 ?_
      refine r_icmp_ge (pc := 8) (a := i) (b := (c : Int)) hx hb dX3_hasPhasesTurned_8 (tgt := 45) (by decide) ⟨by omega, by omega⟩ ⟨by omega, by omega⟩ (fun c_8 => ?_) (fun c_8 => ?_)
      · have c_8_ := c_8
        refine lv_iconst (pc := 45) (v := iv 1) hx hb dX3_hasPhasesTurned_45 rfl ?_
        refine c_zret (pc := 46) hC hQ hP hD hS (by decide) (by decide) dX3_hasPhasesTurned_46 nz_1 ?_
        exact ⟨congrArg (fun z => some (Value.int z)) (bz_1 (tb_t (hal.eq (by omega)))), rfl⟩
      · have c_8_ := c_8
        refine lv_iload_n (pc := 11) hx hb dX3_hasPhasesTurned_11 rfl (lv_at hl 3 rfl) ?_
        refine lv_aload_n (pc := 12) hx hb dX3_hasPhasesTurned_12 rfl (lv_at hl 1 rfl) ?_
        refine r_alenI (pc := 13) hC hK hP hip2 dX3_hasPhasesTurned_13 ?_
        refine r_icmp_ge (pc := 14) (a := i) (b := (c2 : Int)) hx hb dX3_hasPhasesTurned_14 (tgt := 45) (by decide) ⟨by omega, by omega⟩ ⟨by omega, by omega⟩ (fun c_14 => ?_) (fun c_14 => ?_)
        · have c_14_ := c_14
          omega
        · have c_14_ := c_14
          refine lv_aload_n (pc := 17) hx hb dX3_hasPhasesTurned_17 rfl (lv_at hl 0 rfl) ?_
          refine r_get (pc := 18) hC hK hP hia (hc := rfl) (fun w h => wt_3 w h) 2 (by decide) m_4_0 (fun _ h => h) (v := .ref ph) rfl dX3_hasPhasesTurned_18 ?_
          refine lv_iload_n (pc := 21) hx hb dX3_hasPhasesTurned_21 rfl (lv_at hl 3 rfl) ?_
          refine lv_iload_n (pc := 22) hx hb dX3_hasPhasesTurned_22 rfl (lv_at hl 2 rfl) ?_
          refine r_iadd (pc := 23) (a := i) (b := t) hx hb dX3_hasPhasesTurned_23 ?_
          refine lv_aload_n (pc := 24) hx hb dX3_hasPhasesTurned_24 rfl (lv_at hl 0 rfl) ?_
          refine r_get (pc := 25) hC hK hP hia (hc := rfl) (fun w h => wt_3 w h) 2 (by decide) m_4_0 (fun _ h => h) (v := .ref ph) rfl dX3_hasPhasesTurned_25 ?_
          refine r_alenI (pc := 28) hC hK hP hip dX3_hasPhasesTurned_28 ?_
          refine r_irem (pc := 29) (a := i + t) (b := (c : Int)) hx hb dX3_hasPhasesTurned_29 ⟨⟨by omega, by omega⟩, by omega, by omega⟩ ?_
          have hm_29 := Int.emod_nonneg (i + t) (show ((c : Int)) ≠ 0 by omega)
          have hn_29 := Int.emod_lt_of_pos (i + t) (show 0 < ((c : Int)) by omega)
          rw [tn_mod ⟨hi.1, by omega⟩ ht]
          have hjb := tn_bd (cy := c) (t := t) (i := i) ⟨hi.1, by omega⟩ ht
          refine r_iald (pc := 30) (z := tn c t i) hC hK hP hip ⟨by omega, by omega, by omega⟩ dX3_hasPhasesTurned_30 ?_
          refine lv_aload_n (pc := 31) hx hb dX3_hasPhasesTurned_31 rfl (lv_at hl 1 rfl) ?_
          refine lv_iload_n (pc := 32) hx hb dX3_hasPhasesTurned_32 rfl (lv_at hl 3 rfl) ?_
          refine r_iald (pc := 33) (z := i) hC hK hP hip2 ⟨by omega, by omega, by omega⟩ dX3_hasPhasesTurned_33 ?_
          refine r_icmp_eq (pc := 34) (a := D (tn c t i).toNat) (b := D2 i.toNat) hx hb dX3_hasPhasesTurned_34 (tgt := 39) (by decide) (hrD _) (hrD2 _) (fun c_34 => ?_) (fun c_34 => ?_)
          · have c_34_ := c_34
            refine lv_iinc (v := iv (i + 1)) (lv' := [(3, .int (iv (i + 1))), (0, .ref a), (1, .ref ph2), (2, .int (iv t))]) (pc := 39) hx hb dX3_hasPhasesTurned_39 hl (k := 3) rfl (iv_add _ _) (by decide) rfl (fun ls hl => ?_)
            refine lv_goto (pc := 42) (tgt := 2) hx hb dX3_hasPhasesTurned_42 (by decide) ?_
            exact ih_2 (i + 1) (by omega) ((ALLb.succ hi.1).mpr ⟨hal, c_34⟩) (by omega) _ _ _ hP hD hS (lv_sub hl [1, 2, 3, 0] rfl)
          · have c_34_ := c_34
            have hne : ¬ (D (tn c t i).toNat = D2 i.toNat) := c_34
            refine lv_iconst (pc := 37) (v := iv 0) hx hb dX3_hasPhasesTurned_37 rfl ?_
            refine c_zret (pc := 38) hC hQ hP hD hS (by decide) (by decide) dX3_hasPhasesTurned_38 nz_0 ?_
            exact ⟨congrArg (fun z => some (Value.int z)) (bz_0 (tb_f (fun z => hne (z i (by omega) (by omega))))), rfl⟩
  exact lp_2 _ 0 (by omega) (ALLb.zero (by omega)) (Nat.lt_succ_self _) _ _ _ hP hD hS (lv_sub hl [1, 2, 3, 0] rfl)

abbrev rm_c_P_hasPhasesOf : Room := { frames := 1, cells := 0, slots := 0, locals := 60 }
set_option maxRecDepth 100000 in
set_option maxHeartbeats 4000000 in
theorem c_P_hasPhasesOf (l : Launch) (ε : EV) (ws : va_W) (a ph : Nat) (pe lg : Int) (D : Nat → Int) (c : Nat) (hia : In ws a (oPa pe lg ph)) (hip : In ws ph (eI ε c D)) (a2 ph2 : Nat) (pe2 lg2 : Int) (D2 : Nat → Int) (c2 : Nat) (hia2 : In ws a2 (oPa pe2 lg2 ph2)) (hip2 : In ws ph2 (eI ε c2 D2)) (hc6 : c ≤ 6 ∧ c2 ≤ 6) (hrD : ∀ k, rg (D k)) (hrD2 : ∀ k, rg (D2 k)) : CT l yX3_hasPhasesOf cX3_hasPhasesOf 3 (some .boolean) rm_c_P_hasPhasesOf ε [.ref a, .ref a2] (ws) (fun v w => v = some (.int (iv (bz (tb (PHS D D2 c c2))))) ∧ w = ws) NX := by
  refine CT.intro (by decide +kernel) (Nat.le_of_ble_eq_true rfl) ?_
  intro p9 e9 s9 m9 a9 bl9 me9 c9 ls Q9 hC hE hP hD hl hQ
  have hx := hC.1
  have hb := hC.2.1
  have hK := hE.K
  have hS : WS ε s9.heap s9.heap [] := va_S.rf
  have hl : lv_has ls 3 [(0, .ref a), (1, .ref a2)] := hl
  obtain ⟨H, hH⟩ : ∃ H, H = s9.heap := ⟨_, rfl⟩
  obtain ⟨locs, hlo⟩ : ∃ z : List Loc, z = [] := ⟨_, rfl⟩
  rw [← hH] at hP ⊢
  have hS : WS ε s9.heap H locs := by rw [hH, hlo]; exact hS
  rw [← hlo]
  clear hH hlo
  refine lv_aload_n (pc := 0) hx hb dX3_hasPhasesOf_0 rfl (lv_at hl 0 rfl) ?_
  refine r_get (pc := 1) hC hK hP hia (hc := rfl) (fun w h => wt_3 w h) 2 (by decide) m_4_0 (fun _ h => h) (v := .ref ph) rfl dX3_hasPhasesOf_1 ?_
  refine r_alenI (pc := 4) hC hK hP hip dX3_hasPhasesOf_4 ?_
  refine lv_aload_n (pc := 5) hx hb dX3_hasPhasesOf_5 rfl (lv_at hl 1 rfl) ?_
  refine r_get (pc := 6) hC hK hP hia2 (hc := rfl) (fun w h => wt_3 w h) 2 (by decide) m_4_0 (fun _ h => h) (v := .ref ph2) rfl dX3_hasPhasesOf_6 ?_
  refine r_alenI (pc := 9) hC hK hP hip2 dX3_hasPhasesOf_9 ?_
  refine r_icmp_eq (pc := 10) (a := (c : Int)) (b := (c2 : Int)) hx hb dX3_hasPhasesOf_10 (tgt := 15) (by decide) ⟨by omega, by omega⟩ ⟨by omega, by omega⟩ (fun c_10 => ?_) (fun c_10 => ?_)
  · have c_10_ := c_10
    refine lv_iconst (pc := 15) (v := iv 0) hx hb dX3_hasPhasesOf_15 rfl ?_
    refine lv_istore_n (lv' := [(2, .int (iv 0)), (0, .ref a), (1, .ref a2)]) (pc := 16) hx hb dX3_hasPhasesOf_16 rfl hl (by decide) rfl (fun ls hl => ?_)
    have lp_17 : ∀ (k9 : Nat) (t : Int) (ht : 0 ≤ t ∧ t ≤ c + 1 ∧ t % 2 = 0) (hno : ¬ EVT (TURN D D2 c) t) , (((c : Int) - t).toNat) < k9 → ∀ (H : Heap) (locs : List Loc) (ls : Array Slot), WP ε (ws) H → WD ε (ws) → WS ε s9.heap H locs → lv_has ls 3 [(0, .ref a), (1, .ref a2), (2, .int (iv t))] → W p9 l e9 rm_c_P_hasPhasesOf s9 m9 a9 bl9 me9 c9 H locs 0 0 Q9 (F0 m9 17 ls []) := by
      intro k9
      induction k9 with
      | zero => intro t ht hno h9; exact absurd h9 (Nat.not_lt_zero _)
      | succ k9 ih_17 =>
        intro t ht hno h9 H locs ls hP hD hS hl
        refine lv_iload_n (pc := 17) hx hb dX3_hasPhasesOf_17 rfl (lv_at hl 2 rfl) ?_
        refine lv_aload_n (pc := 18) hx hb dX3_hasPhasesOf_18 rfl (lv_at hl 0 rfl) ?_
        refine r_get (pc := 19) hC hK hP hia (hc := rfl) (fun w h => wt_3 w h) 2 (by decide) m_4_0 (fun _ h => h) (v := .ref ph) rfl dX3_hasPhasesOf_19 ?_
        refine r_alenI (pc := 22) hC hK hP hip dX3_hasPhasesOf_22 ?_
        refine r_icmp_ge (pc := 23) (a := t) (b := (c : Int)) hx hb dX3_hasPhasesOf_23 (tgt := 46) (by decide) ⟨by omega, by omega⟩ ⟨by omega, by omega⟩ (fun c_23 => ?_) (fun c_23 => ?_)
        · have c_23_ := c_23
          have hev : EVT (TURN D D2 c) c → EVT (TURN D D2 c) t := fun ⟨u, h1, h2, h3⟩ => ⟨u, h1, by omega, h3⟩
          refine lv_iconst (pc := 46) (v := iv 0) hx hb dX3_hasPhasesOf_46 rfl ?_
          refine c_zret (pc := 47) hC hQ hP hD hS (by decide) (by decide) dX3_hasPhasesOf_47 nz_0 ?_
          exact ⟨congrArg (fun z => some (Value.int z)) (bz_0 (tb_f (fun z => hno (hev z.2)))), rfl⟩
        · have c_23_ := c_23
          refine lv_aload_n (pc := 26) hx hb dX3_hasPhasesOf_26 rfl (lv_at hl 0 rfl) ?_
          refine lv_aload_n (pc := 27) hx hb dX3_hasPhasesOf_27 rfl (lv_at hl 1 rfl) ?_
          refine r_get (pc := 28) hC hK hP hia2 (hc := rfl) (fun w h => wt_3 w h) 2 (by decide) m_4_0 (fun _ h => h) (v := .ref ph2) rfl dX3_hasPhasesOf_28 ?_
          refine lv_iload_n (pc := 31) hx hb dX3_hasPhasesOf_31 rfl (lv_at hl 2 rfl) ?_
          refine c_callV (pc := 32) (y := yX3_hasPhasesTurned) (As := [.ref ph2, .int (iv t)]) (rest := []) hC hE hP hD hS hl.1 (c_P_hasPhasesTurned l ε ws a ph pe lg D c hia hip ph2 D2 c2 hip2 ⟨by omega, by omega⟩ (t) ⟨by omega, by omega⟩ hrD hrD2) m_4_1 m_4_2 m_4_3 m_3_23 m_4_4 hia rfl hd_yX3_hasPhasesTurned rfl ⟨⟨by decide, by decide⟩, by decide, by decide⟩ (Nat.le_of_ble_eq_true rfl) rfl dX3_hasPhasesOf_32 kxN (fun v ws1 H locs hq hP hD hS => ?_)
          rw [hq.2] at hP hD
          rw [hq.1]
          dsimp only [Option.toList, List.cons_append, List.nil_append]
          refine r_if_b0 (pc := 35) (b := tb (TURN D D2 c t)) hx hb dX3_hasPhasesOf_35 (tgt := 40) (by decide)  (fun c_35 => ?_) (fun c_35 => ?_)
          · replace c_35 := tb_no c_35
            refine lv_iinc (v := iv (t + 2)) (lv' := [(2, .int (iv (t + 2))), (0, .ref a), (1, .ref a2)]) (pc := 40) hx hb dX3_hasPhasesOf_40 hl (k := 2) rfl (iv_add _ _) (by decide) rfl (fun ls hl => ?_)
            refine lv_goto (pc := 43) (tgt := 17) hx hb dX3_hasPhasesOf_43 (by decide) ?_
            exact ih_17 (t + 2) (by omega) (fun z => ((EVT.step ht.1 ht.2.2).mp z).elim hno c_35) (by omega) _ _ _ hP hD hS (lv_sub hl [1, 2, 0] rfl)
          · replace c_35 := tb_iff.mp c_35
            refine lv_iconst (pc := 38) (v := iv 1) hx hb dX3_hasPhasesOf_38 rfl ?_
            refine c_zret (pc := 39) hC hQ hP hD hS (by decide) (by decide) dX3_hasPhasesOf_39 nz_1 ?_
            exact ⟨congrArg (fun z => some (Value.int z)) (bz_1 (tb_t ⟨by omega, t, by omega, by omega, by omega, c_35⟩)), rfl⟩
    exact lp_17 _ 0 (by omega) (EVT.zero (by omega)) (Nat.lt_succ_self _) _ _ _ hP hD hS (lv_sub hl [1, 2, 0] rfl)
  · have c_10_ := c_10
    refine lv_iconst (pc := 13) (v := iv 0) hx hb dX3_hasPhasesOf_13 rfl ?_
    refine c_zret (pc := 14) hC hQ hP hD hS (by decide) (by decide) dX3_hasPhasesOf_14 nz_0 ?_
    exact ⟨congrArg (fun z => some (Value.int z)) (bz_0 (tb_f (fun z => by have z1 := z.1; omega))), rfl⟩

abbrev rm_c_P_hasSecondsLater : Room := { frames := 1, cells := 0, slots := 0, locals := 40 }
set_option maxRecDepth 100000 in
set_option maxHeartbeats 4000000 in
theorem c_P_hasSecondsLater (l : Launch) (ε : EV) (ws : va_W) (a ph : Nat) (pe lg : Int) (D : Nat → Int) (c : Nat) (hia : In ws a (oPa pe lg ph)) (hv : PV (DP D) c pe) (hl9 : BITS D c pe lg) (a2 ph2 : Nat) (pe2 lg2 : Int) (D2 : Nat → Int) (c2 : Nat) (hia2 : In ws a2 (oPa pe2 lg2 ph2)) (hv2 : PV (DP D2) c2 pe2) (hl2 : BITS D2 c2 pe2 lg2) (t : Int) (ht : 0 ≤ t ∧ t < pe) : CT l yX3_hasSecondsLater cX3_hasSecondsLater 5 (some .boolean) rm_c_P_hasSecondsLater ε [.ref a, .ref a2, .int (iv t)] (ws) (fun v w => v = some (.int (iv (bz (tb (SLAT (lt (DP D) c pe) (lt (DP D2) c2 pe2) (pe * pe2) t))))) ∧ w = ws) NX := by
  refine CT.intro (by decide +kernel) (Nat.le_of_ble_eq_true rfl) ?_
  intro p9 e9 s9 m9 a9 bl9 me9 c9 ls Q9 hC hE hP hD hl hQ
  have hx := hC.1
  have hb := hC.2.1
  have hK := hE.K
  have hS : WS ε s9.heap s9.heap [] := va_S.rf
  have hl : lv_has ls 5 [(0, .ref a), (1, .ref a2), (2, .int (iv t))] := hl
  obtain ⟨H, hH⟩ : ∃ H, H = s9.heap := ⟨_, rfl⟩
  obtain ⟨locs, hlo⟩ : ∃ z : List Loc, z = [] := ⟨_, rfl⟩
  rw [← hH] at hP ⊢
  have hS : WS ε s9.heap H locs := by rw [hH, hlo]; exact hS
  rw [← hlo]
  clear hH hlo
  have hper := hv.per
  have hper2 := hv2.per
  have hpp : 0 ≤ pe * pe2 ∧ pe * pe2 ≤ 54 * 54 := ⟨Int.mul_nonneg (by omega) (by omega), Int.mul_le_mul (by omega) (by omega) (by omega) (by omega)⟩
  refine lv_aload_n (pc := 0) hx hb dX3_hasSecondsLater_0 rfl (lv_at hl 0 rfl) ?_
  refine r_get (pc := 1) hC hK hP hia (hc := rfl) (fun w h => wt_3 w h) 0 (by decide) m_6_13 (fun _ h => h) (v := .int (iv pe)) rfl dX3_hasSecondsLater_1 ?_
  refine lv_aload_n (pc := 4) hx hb dX3_hasSecondsLater_4 rfl (lv_at hl 1 rfl) ?_
  refine r_get (pc := 5) hC hK hP hia2 (hc := rfl) (fun w h => wt_3 w h) 0 (by decide) m_6_13 (fun _ h => h) (v := .int (iv pe2)) rfl dX3_hasSecondsLater_5 ?_
  refine r_imul (pc := 8) (a := pe) (b := pe2) hx hb dX3_hasSecondsLater_8 ?_
  refine lv_istore_n (lv' := [(3, .int (iv (pe * pe2))), (0, .ref a), (1, .ref a2), (2, .int (iv t))]) (pc := 9) hx hb dX3_hasSecondsLater_9 rfl hl (by decide) rfl (fun ls hl => ?_)
  refine lv_iconst (pc := 10) (v := iv 0) hx hb dX3_hasSecondsLater_10 rfl ?_
  refine lv_istore (lv' := [(4, .int (iv 0)), (3, .int (iv (pe * pe2))), (0, .ref a), (1, .ref a2), (2, .int (iv t))]) (pc := 11) hx hb dX3_hasSecondsLater_11 hl (by decide) rfl (fun ls hl => ?_)
  have lp_13 : ∀ (k9 : Nat) (u : Int) (hu : 0 ≤ u ∧ u ≤ pe * pe2) (hal : ALLb (fun u => lt (DP D) c pe (u + t) = lt (DP D2) c2 pe2 u) u) , ((pe * pe2 - u).toNat) < k9 → ∀ (H : Heap) (locs : List Loc) (ls : Array Slot), WP ε (ws) H → WD ε (ws) → WS ε s9.heap H locs → lv_has ls 5 [(0, .ref a), (1, .ref a2), (2, .int (iv t)), (3, .int (iv (pe * pe2))), (4, .int (iv u))] → W p9 l e9 rm_c_P_hasSecondsLater s9 m9 a9 bl9 me9 c9 H locs 0 0 Q9 (F0 m9 13 ls []) := by
    intro k9
    induction k9 with
    | zero => intro u hu hal h9; exact absurd h9 (Nat.not_lt_zero _)
    | succ k9 ih_13 =>
      intro u hu hal h9 H locs ls hP hD hS hl
      refine lv_iload (pc := 13) hx hb dX3_hasSecondsLater_13 (lv_at hl 4 rfl) ?_
      refine lv_iload_n (pc := 15) hx hb dX3_hasSecondsLater_15 rfl (lv_at hl 3 rfl) ?_
      refine r_icmp_ge (pc := 16) (a := u) (b := pe * pe2) hx hb dX3_hasSecondsLater_16 (tgt := 44) (by decide) ⟨by omega, by omega⟩ ⟨by omega, by omega⟩ (fun c_16 => ?_) (fun c_16 => ?_)
      · have c_16_ := c_16
        refine lv_iconst (pc := 44) (v := iv 1) hx hb dX3_hasSecondsLater_44 rfl ?_
        refine c_zret (pc := 45) hC hQ hP hD hS (by decide) (by decide) dX3_hasSecondsLater_45 nz_1 ?_
        exact ⟨congrArg (fun z => some (Value.int z)) (bz_1 (tb_t (hal.eq (by omega)))), rfl⟩
      · have c_16_ := c_16
        refine lv_aload_n (pc := 19) hx hb dX3_hasSecondsLater_19 rfl (lv_at hl 0 rfl) ?_
        refine lv_iload (pc := 20) hx hb dX3_hasSecondsLater_20 (lv_at hl 4 rfl) ?_
        refine lv_iload_n (pc := 22) hx hb dX3_hasSecondsLater_22 rfl (lv_at hl 2 rfl) ?_
        refine r_iadd (pc := 23) (a := u) (b := t) hx hb dX3_hasSecondsLater_23 ?_
        refine c_callV (pc := 24) (y := yX3_isLight) (As := [.int (iv (u + t))]) (rest := []) hC hE hP hD hS hl.1 (c_P_isLight l ε ws a ph pe lg D c hia hv hl9 (u + t) ⟨by omega, by omega⟩) m_9_11 m_9_12 m_9_13 m_3_23 m_9_14 hia rfl hd_yX3_isLight rfl ⟨⟨by decide, by decide⟩, by decide, by decide⟩ (Nat.le_of_ble_eq_true rfl) rfl dX3_hasSecondsLater_24 kxN (fun v ws1 H locs hq hP hD hS => ?_)
        rw [hq.2] at hP hD
        rw [hq.1]
        dsimp only [Option.toList, List.cons_append, List.nil_append]
        refine lv_aload_n (pc := 27) hx hb dX3_hasSecondsLater_27 rfl (lv_at hl 1 rfl) ?_
        refine lv_iload (pc := 28) hx hb dX3_hasSecondsLater_28 (lv_at hl 4 rfl) ?_
        refine c_callV (pc := 30) (y := yX3_isLight) (As := [.int (iv u)]) (rest := [.int (iv (bz (lt (DP D) c pe (u + t))))]) hC hE hP hD hS hl.1 (c_P_isLight l ε ws a2 ph2 pe2 lg2 D2 c2 hia2 hv2 hl2 (u) ⟨by omega, by omega⟩) m_9_11 m_9_12 m_9_13 m_3_23 m_9_14 hia2 rfl hd_yX3_isLight rfl ⟨⟨by decide, by decide⟩, by decide, by decide⟩ (Nat.le_of_ble_eq_true rfl) rfl dX3_hasSecondsLater_30 kxN (fun v ws1 H locs hq hP hD hS => ?_)
        rw [hq.2] at hP hD
        rw [hq.1]
        dsimp only [Option.toList, List.cons_append, List.nil_append]
        refine r_icmp_eq (pc := 33) (a := bz (lt (DP D) c pe (u + t))) (b := bz (lt (DP D2) c2 pe2 u)) hx hb dX3_hasSecondsLater_33 (tgt := 38) (by decide) (bz_rg _) (bz_rg _) (fun c_33 => ?_) (fun c_33 => ?_)
        · have c_33_ := c_33
          refine lv_iinc (v := iv (u + 1)) (lv' := [(4, .int (iv (u + 1))), (0, .ref a), (1, .ref a2), (2, .int (iv t)), (3, .int (iv (pe * pe2)))]) (pc := 38) hx hb dX3_hasSecondsLater_38 hl (k := 4) rfl (iv_add _ _) (by decide) rfl (fun ls hl => ?_)
          refine lv_goto (pc := 41) (tgt := 13) hx hb dX3_hasSecondsLater_41 (by decide) ?_
          exact ih_13 (u + 1) (by omega) ((ALLb.succ hu.1).mpr ⟨hal, bz_inj c_33⟩) (by omega) _ _ _ hP hD hS (lv_sub hl [1, 2, 3, 4, 0] rfl)
        · have c_33_ := c_33
          have hne : ¬ (lt (DP D) c pe (u + t) = lt (DP D2) c2 pe2 u) := fun z => c_33 (congrArg bz z)
          refine lv_iconst (pc := 36) (v := iv 0) hx hb dX3_hasSecondsLater_36 rfl ?_
          refine c_zret (pc := 37) hC hQ hP hD hS (by decide) (by decide) dX3_hasSecondsLater_37 nz_0 ?_
          exact ⟨congrArg (fun z => some (Value.int z)) (bz_0 (tb_f (fun z => hne (z u (by omega) (by omega))))), rfl⟩
  exact lp_13 _ 0 (by omega) (ALLb.zero (by omega)) (Nat.lt_succ_self _) _ _ _ hP hD hS (lv_sub hl [2, 3, 4, 1, 0] rfl)

abbrev rm_c_P_hasSecondsOf : Room := { frames := 2, cells := 0, slots := 0, locals := 70 }
set_option maxRecDepth 100000 in
set_option maxHeartbeats 4000000 in
theorem c_P_hasSecondsOf (l : Launch) (ε : EV) (ws : va_W) (a ph : Nat) (pe lg : Int) (D : Nat → Int) (c : Nat) (hia : In ws a (oPa pe lg ph)) (hv : PV (DP D) c pe) (hl9 : BITS D c pe lg) (a2 ph2 : Nat) (pe2 lg2 : Int) (D2 : Nat → Int) (c2 : Nat) (hia2 : In ws a2 (oPa pe2 lg2 ph2)) (hv2 : PV (DP D2) c2 pe2) (hl2 : BITS D2 c2 pe2 lg2) : CT l yX3_hasSecondsOf cX3_hasSecondsOf 3 (some .boolean) rm_c_P_hasSecondsOf ε [.ref a, .ref a2] (ws) (fun v w => v = some (.int (iv (bz (tb (SECS (lt (DP D) c pe) (lt (DP D2) c2 pe2) pe pe2))))) ∧ w = ws) NX := by
  refine CT.intro (by decide +kernel) (Nat.le_of_ble_eq_true rfl) ?_
  intro p9 e9 s9 m9 a9 bl9 me9 c9 ls Q9 hC hE hP hD hl hQ
  have hx := hC.1
  have hb := hC.2.1
  have hK := hE.K
  have hS : WS ε s9.heap s9.heap [] := va_S.rf
  have hl : lv_has ls 3 [(0, .ref a), (1, .ref a2)] := hl
  obtain ⟨H, hH⟩ : ∃ H, H = s9.heap := ⟨_, rfl⟩
  obtain ⟨locs, hlo⟩ : ∃ z : List Loc, z = [] := ⟨_, rfl⟩
  rw [← hH] at hP ⊢
  have hS : WS ε s9.heap H locs := by rw [hH, hlo]; exact hS
  rw [← hlo]
  clear hH hlo
  have hper := hv.per
  refine lv_iconst (pc := 0) (v := iv 0) hx hb dX3_hasSecondsOf_0 rfl ?_
  refine lv_istore_n (lv' := [(2, .int (iv 0)), (0, .ref a), (1, .ref a2)]) (pc := 1) hx hb dX3_hasSecondsOf_1 rfl hl (by decide) rfl (fun ls hl => ?_)
  have lp_2 : ∀ (k9 : Nat) (t : Int) (ht : 0 ≤ t ∧ t ≤ pe) (hno : ¬ EXb (fun t => SLAT (lt (DP D) c pe) (lt (DP D2) c2 pe2) (pe * pe2) t) t) , ((pe - t).toNat) < k9 → ∀ (H : Heap) (locs : List Loc) (ls : Array Slot), WP ε (ws) H → WD ε (ws) → WS ε s9.heap H locs → lv_has ls 3 [(0, .ref a), (1, .ref a2), (2, .int (iv t))] → W p9 l e9 rm_c_P_hasSecondsOf s9 m9 a9 bl9 me9 c9 H locs 0 0 Q9 (F0 m9 2 ls []) := by
    intro k9
    induction k9 with
    | zero => intro t ht hno h9; exact absurd h9 (Nat.not_lt_zero _)
    | succ k9 ih_2 =>
      intro t ht hno h9 H locs ls hP hD hS hl
      refine lv_iload_n (pc := 2) hx hb dX3_hasSecondsOf_2 rfl (lv_at hl 2 rfl) ?_
      refine lv_aload_n (pc := 3) hx hb dX3_hasSecondsOf_3 rfl (lv_at hl 0 rfl) ?_
      refine r_get (pc := 4) hC hK hP hia (hc := rfl) (fun w h => wt_3 w h) 0 (by decide) m_6_13 (fun _ h => h) (v := .int (iv pe)) rfl dX3_hasSecondsOf_4 ?_
      refine r_icmp_ge (pc := 7) (a := t) (b := pe) hx hb dX3_hasSecondsOf_7 (tgt := 27) (by decide) ⟨by omega, by omega⟩ ⟨by omega, by omega⟩ (fun c_7 => ?_) (fun c_7 => ?_)
      · have c_7_ := c_7
        refine lv_iconst (pc := 27) (v := iv 0) hx hb dX3_hasSecondsOf_27 rfl ?_
        refine c_zret (pc := 28) hC hQ hP hD hS (by decide) (by decide) dX3_hasSecondsOf_28 nz_0 ?_
        exact ⟨congrArg (fun z => some (Value.int z)) (bz_0 (tb_f (fun z => hno (EXb.eq (by omega) z)))), rfl⟩
      · have c_7_ := c_7
        refine lv_aload_n (pc := 10) hx hb dX3_hasSecondsOf_10 rfl (lv_at hl 0 rfl) ?_
        refine lv_aload_n (pc := 11) hx hb dX3_hasSecondsOf_11 rfl (lv_at hl 1 rfl) ?_
        refine lv_iload_n (pc := 12) hx hb dX3_hasSecondsOf_12 rfl (lv_at hl 2 rfl) ?_
        refine c_callV (pc := 13) (y := yX3_hasSecondsLater) (As := [.ref a2, .int (iv t)]) (rest := []) hC hE hP hD hS hl.1 (c_P_hasSecondsLater l ε ws a ph pe lg D c hia hv hl9 a2 ph2 pe2 lg2 D2 c2 hia2 hv2 hl2 (t) ⟨by omega, by omega⟩) m_9_7 m_9_8 m_9_9 m_3_23 m_9_10 hia rfl hd_yX3_hasSecondsLater rfl ⟨⟨by decide, by decide⟩, by decide, by decide⟩ (Nat.le_of_ble_eq_true rfl) rfl dX3_hasSecondsOf_13 kxN (fun v ws1 H locs hq hP hD hS => ?_)
        rw [hq.2] at hP hD
        rw [hq.1]
        dsimp only [Option.toList, List.cons_append, List.nil_append]
        refine r_if_b0 (pc := 16) (b := tb (SLAT (lt (DP D) c pe) (lt (DP D2) c2 pe2) (pe * pe2) t)) hx hb dX3_hasSecondsOf_16 (tgt := 21) (by decide)  (fun c_16 => ?_) (fun c_16 => ?_)
        · replace c_16 := tb_no c_16
          refine lv_iinc (v := iv (t + 1)) (lv' := [(2, .int (iv (t + 1))), (0, .ref a), (1, .ref a2)]) (pc := 21) hx hb dX3_hasSecondsOf_21 hl (k := 2) rfl (iv_add _ _) (by decide) rfl (fun ls hl => ?_)
          refine lv_goto (pc := 24) (tgt := 2) hx hb dX3_hasSecondsOf_24 (by decide) ?_
          exact ih_2 (t + 1) (by omega) (fun z => ((EXb.succ ht.1).mp z).elim hno c_16) (by omega) _ _ _ hP hD hS (lv_sub hl [1, 2, 0] rfl)
        · replace c_16 := tb_iff.mp c_16
          refine lv_iconst (pc := 19) (v := iv 1) hx hb dX3_hasSecondsOf_19 rfl ?_
          refine c_zret (pc := 20) hC hQ hP hD hS (by decide) (by decide) dX3_hasSecondsOf_20 nz_1 ?_
          exact ⟨congrArg (fun z => some (Value.int z)) (bz_1 (tb_t ⟨t, by omega, by omega, c_16⟩)), rfl⟩
  exact lp_2 _ 0 (by omega) (EXb.zero (by omega)) (Nat.lt_succ_self _) _ _ _ hP hD hS (lv_sub hl [1, 2, 0] rfl)

abbrev rm_c_P_looksLike : Room := { frames := 1, cells := 0, slots := 0, locals := 40 }
set_option maxRecDepth 100000 in
set_option maxHeartbeats 4000000 in
theorem c_P_looksLike (l : Launch) (ε : EV) (ws : va_W) (a ph : Nat) (pe lg : Int) (D : Nat → Int) (c : Nat) (hia : In ws a (oPa pe lg ph)) (hv : PV (DP D) c pe) (hl9 : BITS D c pe lg) (lk : Int) (hlk : 0 ≤ lk ∧ lk < 2 ^ 62) (many : Int) (hm : 0 ≤ many ∧ many ≤ 60) (t : Int) (ht : 0 ≤ t ∧ t < pe) : CT l yX3_looksLike cX3_looksLike 7 (some .boolean) rm_c_P_looksLike ε [.ref a, .long (jv lk), .int (iv many), .int (iv t)] (ws) (fun v w => v = some (.int (iv (bz (tb (LOOK (lt (DP D) c pe) lk many t))))) ∧ w = ws) NX := by
  refine CT.intro (by decide +kernel) (Nat.le_of_ble_eq_true rfl) ?_
  intro p9 e9 s9 m9 a9 bl9 me9 c9 ls Q9 hC hE hP hD hl hQ
  have hx := hC.1
  have hb := hC.2.1
  have hK := hE.K
  have hS : WS ε s9.heap s9.heap [] := va_S.rf
  have hl : lv_has ls 7 [(0, .ref a), (1, .long (jv lk)), (3, .int (iv many)), (4, .int (iv t))] := hl
  obtain ⟨H, hH⟩ : ∃ H, H = s9.heap := ⟨_, rfl⟩
  obtain ⟨locs, hlo⟩ : ∃ z : List Loc, z = [] := ⟨_, rfl⟩
  rw [← hH] at hP ⊢
  have hS : WS ε s9.heap H locs := by rw [hH, hlo]; exact hS
  rw [← hlo]
  clear hH hlo
  have hper := hv.per
  have hpw : (2 : Int) ^ 62 = 4611686018427387904 := by decide
  refine lv_iconst (pc := 0) (v := iv 0) hx hb dX3_looksLike_0 rfl ?_
  refine lv_istore (lv' := [(5, .int (iv 0)), (0, .ref a), (1, .long (jv lk)), (3, .int (iv many)), (4, .int (iv t))]) (pc := 1) hx hb dX3_looksLike_1 hl (by decide) rfl (fun ls hl => ?_)
  have lp_3 : ∀ (k9 : Nat) (u : Int) (hu : 0 ≤ u ∧ u ≤ many) (hal : ALLb (fun u => (lt (DP D) c pe (t + u) = true ↔ BT lk u)) u) , ((many - u).toNat) < k9 → ∀ (H : Heap) (locs : List Loc) (ls : Array Slot), WP ε (ws) H → WD ε (ws) → WS ε s9.heap H locs → lv_has ls 7 [(0, .ref a), (1, .long (jv lk)), (3, .int (iv many)), (4, .int (iv t)), (5, .int (iv u))] → W p9 l e9 rm_c_P_looksLike s9 m9 a9 bl9 me9 c9 H locs 0 0 Q9 (F0 m9 3 ls []) := by
    intro k9
    induction k9 with
    | zero => intro u hu hal h9; exact absurd h9 (Nat.not_lt_zero _)
    | succ k9 ih_3 =>
      intro u hu hal h9 H locs ls hP hD hS hl
      refine lv_iload (pc := 3) hx hb dX3_looksLike_3 (lv_at hl 4 rfl) ?_
      refine lv_iload_n (pc := 5) hx hb dX3_looksLike_5 rfl (lv_at hl 2 rfl) ?_
      refine r_icmp_ge (pc := 6) (a := u) (b := many) hx hb dX3_looksLike_6 (tgt := 49) (by decide) ⟨by omega, by omega⟩ ⟨by omega, by omega⟩ (fun c_6 => ?_) (fun c_6 => ?_)
      · have c_6_ := c_6
        refine lv_iconst (pc := 49) (v := iv 1) hx hb dX3_looksLike_49 rfl ?_
        refine c_zret (pc := 50) hC hQ hP hD hS (by decide) (by decide) dX3_looksLike_50 nz_1 ?_
        exact ⟨congrArg (fun z => some (Value.int z)) (bz_1 (tb_t (hal.eq (by omega)))), rfl⟩
      · have c_6_ := c_6
        have lp_25 : ∀ (li : Bool) (hli : li = true ↔ BT lk u), ∀ (H : Heap) (locs : List Loc) (ls : Array Slot), WP ε (ws) H → WD ε (ws) → WS ε s9.heap H locs → lv_has ls 7 [(0, .ref a), (1, .long (jv lk)), (3, .int (iv many)), (4, .int (iv t)), (5, .int (iv u))] → W p9 l e9 rm_c_P_looksLike s9 m9 a9 bl9 me9 c9 H locs 0 0 Q9 (F0 m9 25 ls [.int (iv (bz li))]) := by
          intro li hli H locs ls hP hD hS hl
          refine lv_istore (lv' := [(6, .int (iv (bz li))), (0, .ref a), (1, .long (jv lk)), (3, .int (iv many)), (4, .int (iv t)), (5, .int (iv u))]) (pc := 25) hx hb dX3_looksLike_25 hl (by decide) rfl (fun ls hl => ?_)
          refine lv_aload_n (pc := 27) hx hb dX3_looksLike_27 rfl (lv_at hl 1 rfl) ?_
          refine lv_iload (pc := 28) hx hb dX3_looksLike_28 (lv_at hl 4 rfl) ?_
          refine lv_iload (pc := 30) hx hb dX3_looksLike_30 (lv_at hl 5 rfl) ?_
          refine r_iadd (pc := 32) (a := t) (b := u) hx hb dX3_looksLike_32 ?_
          refine c_callV (pc := 33) (y := yX3_isLight) (As := [.int (iv (t + u))]) (rest := []) hC hE hP hD hS hl.1 (c_P_isLight l ε ws a ph pe lg D c hia hv hl9 (t + u) ⟨by omega, by omega⟩) m_9_11 m_9_12 m_9_13 m_3_23 m_9_14 hia rfl hd_yX3_isLight rfl ⟨⟨by decide, by decide⟩, by decide, by decide⟩ (Nat.le_of_ble_eq_true rfl) rfl dX3_looksLike_33 kxN (fun v ws1 H locs hq hP hD hS => ?_)
          rw [hq.2] at hP hD
          rw [hq.1]
          dsimp only [Option.toList, List.cons_append, List.nil_append]
          refine lv_iload (pc := 36) hx hb dX3_looksLike_36 (lv_at hl 0 rfl) ?_
          refine r_icmp_eq (pc := 38) (a := bz (lt (DP D) c pe (t + u))) (b := bz li) hx hb dX3_looksLike_38 (tgt := 43) (by decide) (bz_rg _) (bz_rg _) (fun c_38 => ?_) (fun c_38 => ?_)
          · have c_38_ := c_38
            refine lv_iinc (v := iv (u + 1)) (lv' := [(5, .int (iv (u + 1))), (6, .int (iv (bz li))), (0, .ref a), (1, .long (jv lk)), (3, .int (iv many)), (4, .int (iv t))]) (pc := 43) hx hb dX3_looksLike_43 hl (k := 5) rfl (iv_add _ _) (by decide) rfl (fun ls hl => ?_)
            refine lv_goto (pc := 46) (tgt := 3) hx hb dX3_looksLike_46 (by decide) ?_
            exact ih_3 (u + 1) (by omega) ((ALLb.succ hu.1).mpr ⟨hal, by rw [bz_inj c_38]; exact hli⟩) (by omega) _ _ _ hP hD hS (lv_sub hl [2, 3, 4, 5, 0] rfl)
          · have c_38_ := c_38
            have hne : ¬ (lt (DP D) c pe (t + u) = true ↔ BT lk u) := fun z => c_38 (congrArg bz (Bool.eq_iff_iff.mpr (z.trans hli.symm)))
            refine lv_iconst (pc := 41) (v := iv 0) hx hb dX3_looksLike_41 rfl ?_
            refine c_zret (pc := 42) hC hQ hP hD hS (by decide) (by decide) dX3_looksLike_42 nz_0 ?_
            exact ⟨congrArg (fun z => some (Value.int z)) (bz_0 (tb_f (fun z => hne (z u (by omega) (by omega))))), rfl⟩
        refine lv_lload_n (pc := 9) hx hb dX3_looksLike_9 rfl (lv_at hl 1 rfl) ?_
        refine lv_iload (pc := 10) hx hb dX3_looksLike_10 (lv_at hl 4 rfl) ?_
        refine lv_lushr (pc := 12) (x := jv lk) (y := iv u) (v := jv (lk / 2 ^ u.toNat)) hx hb dX3_looksLike_12 (jv_shr ⟨by omega, by omega⟩ ⟨by omega, by omega⟩) ?_
        refine lv_lconst (pc := 13) (v := jv 1) hx hb dX3_looksLike_13 (by decide) ?_
        have hq_14 := ediv_bd hlk u.toNat
        refine lv_land (pc := 14) (x := jv (lk / 2 ^ u.toNat)) (y := jv 1) hx hb dX3_looksLike_14 ?_
        rw [jv_and1 ⟨by omega, by omega⟩]
        have hm_14 := Int.emod_nonneg (lk / 2 ^ u.toNat) (show (2 : Int) ≠ 0 by omega)
        have hn_14 := Int.emod_lt_of_pos (lk / 2 ^ u.toNat) (show (0 : Int) < 2 by omega)
        refine lv_lconst (pc := 15) (v := jv 1) hx hb dX3_looksLike_15 (by decide) ?_
        refine W.lcmp (pc := 16) (x := jv ((lk / 2 ^ u.toNat) % 2)) (y := jv 1) hx hb dX3_looksLike_16 ?_
        rw [lg_cmp_jv ⟨by omega, by omega⟩ ⟨by omega, by omega⟩]
        have hcm_16 := cmpI_z ((lk / 2 ^ u.toNat) % 2) 1
        refine r_if_ne (pc := 17) (a := cmpI ((lk / 2 ^ u.toNat) % 2) 1) hx hb dX3_looksLike_17 (tgt := 24) (by decide) ⟨by omega, by omega⟩ (fun c_17 => ?_) (fun c_17 => ?_)
        · have c_17_ := c_17
          refine lv_iconst (pc := 24) (v := iv 0) hx hb dX3_looksLike_24 rfl ?_
          exact lp_25 false ⟨fun z => (by cases z), fun z => (by have z1 : lk / 2 ^ u.toNat % 2 = 1 := z; omega)⟩ _ _ _ hP hD hS (lv_sub hl [0, 1, 2, 3, 4] rfl)
        · have c_17_ := c_17
          refine lv_iconst (pc := 20) (v := iv 1) hx hb dX3_looksLike_20 rfl ?_
          refine lv_goto (pc := 21) (tgt := 25) hx hb dX3_looksLike_21 (by decide) ?_
          exact lp_25 true ⟨fun _ => (show lk / 2 ^ u.toNat % 2 = 1 by omega), fun _ => rfl⟩ _ _ _ hP hD hS (lv_sub hl [0, 1, 2, 3, 4] rfl)
  exact lp_3 _ 0 (by omega) (ALLb.zero (by omega)) (Nat.lt_succ_self _) _ _ _ hP hD hS (lv_sub hl [1, 2, 3, 4, 0] rfl)

abbrev rm_c_P_canLookLike : Room := { frames := 2, cells := 0, slots := 0, locals := 70 }
set_option maxRecDepth 100000 in
set_option maxHeartbeats 4000000 in
theorem c_P_canLookLike (l : Launch) (ε : EV) (ws : va_W) (a ph : Nat) (pe lg : Int) (D : Nat → Int) (c : Nat) (hia : In ws a (oPa pe lg ph)) (hv : PV (DP D) c pe) (hl9 : BITS D c pe lg) (lk : Int) (hlk : 0 ≤ lk ∧ lk < 2 ^ 62) (many : Int) (hm : 0 ≤ many ∧ many ≤ 60) : CT l yX3_canLookLike cX3_canLookLike 5 (some .boolean) rm_c_P_canLookLike ε [.ref a, .long (jv lk), .int (iv many)] (ws) (fun v w => v = some (.int (iv (bz (tb (EXb (fun t => LOOK (lt (DP D) c pe) lk many t) pe))))) ∧ w = ws) NX := by
  refine CT.intro (by decide +kernel) (Nat.le_of_ble_eq_true rfl) ?_
  intro p9 e9 s9 m9 a9 bl9 me9 c9 ls Q9 hC hE hP hD hl hQ
  have hx := hC.1
  have hb := hC.2.1
  have hK := hE.K
  have hS : WS ε s9.heap s9.heap [] := va_S.rf
  have hl : lv_has ls 5 [(0, .ref a), (1, .long (jv lk)), (3, .int (iv many))] := hl
  obtain ⟨H, hH⟩ : ∃ H, H = s9.heap := ⟨_, rfl⟩
  obtain ⟨locs, hlo⟩ : ∃ z : List Loc, z = [] := ⟨_, rfl⟩
  rw [← hH] at hP ⊢
  have hS : WS ε s9.heap H locs := by rw [hH, hlo]; exact hS
  rw [← hlo]
  clear hH hlo
  have hper := hv.per
  refine lv_iconst (pc := 0) (v := iv 0) hx hb dX3_canLookLike_0 rfl ?_
  refine lv_istore (lv' := [(4, .int (iv 0)), (0, .ref a), (1, .long (jv lk)), (3, .int (iv many))]) (pc := 1) hx hb dX3_canLookLike_1 hl (by decide) rfl (fun ls hl => ?_)
  have lp_3 : ∀ (k9 : Nat) (t : Int) (ht : 0 ≤ t ∧ t ≤ pe) (hno : ¬ EXb (fun t => LOOK (lt (DP D) c pe) lk many t) t) , ((pe - t).toNat) < k9 → ∀ (H : Heap) (locs : List Loc) (ls : Array Slot), WP ε (ws) H → WD ε (ws) → WS ε s9.heap H locs → lv_has ls 5 [(0, .ref a), (1, .long (jv lk)), (3, .int (iv many)), (4, .int (iv t))] → W p9 l e9 rm_c_P_canLookLike s9 m9 a9 bl9 me9 c9 H locs 0 0 Q9 (F0 m9 3 ls []) := by
    intro k9
    induction k9 with
    | zero => intro t ht hno h9; exact absurd h9 (Nat.not_lt_zero _)
    | succ k9 ih_3 =>
      intro t ht hno h9 H locs ls hP hD hS hl
      refine lv_iload (pc := 3) hx hb dX3_canLookLike_3 (lv_at hl 3 rfl) ?_
      refine lv_aload_n (pc := 5) hx hb dX3_canLookLike_5 rfl (lv_at hl 0 rfl) ?_
      refine r_get (pc := 6) hC hK hP hia (hc := rfl) (fun w h => wt_3 w h) 0 (by decide) m_6_13 (fun _ h => h) (v := .int (iv pe)) rfl dX3_canLookLike_6 ?_
      refine r_icmp_ge (pc := 9) (a := t) (b := pe) hx hb dX3_canLookLike_9 (tgt := 31) (by decide) ⟨by omega, by omega⟩ ⟨by omega, by omega⟩ (fun c_9 => ?_) (fun c_9 => ?_)
      · have c_9_ := c_9
        refine lv_iconst (pc := 31) (v := iv 0) hx hb dX3_canLookLike_31 rfl ?_
        refine c_zret (pc := 32) hC hQ hP hD hS (by decide) (by decide) dX3_canLookLike_32 nz_0 ?_
        exact ⟨congrArg (fun z => some (Value.int z)) (bz_0 (tb_f (fun z => hno (EXb.eq (by omega) z)))), rfl⟩
      · have c_9_ := c_9
        refine lv_aload_n (pc := 12) hx hb dX3_canLookLike_12 rfl (lv_at hl 0 rfl) ?_
        refine lv_lload_n (pc := 13) hx hb dX3_canLookLike_13 rfl (lv_at hl 1 rfl) ?_
        refine lv_iload_n (pc := 14) hx hb dX3_canLookLike_14 rfl (lv_at hl 2 rfl) ?_
        refine lv_iload (pc := 15) hx hb dX3_canLookLike_15 (lv_at hl 3 rfl) ?_
        refine c_callV (pc := 17) (y := yX3_looksLike) (As := [.long (jv lk), .int (iv many), .int (iv t)]) (rest := []) hC hE hP hD hS hl.1 (c_P_looksLike l ε ws a ph pe lg D c hia hv hl9 lk hlk many hm (t) ⟨by omega, by omega⟩) m_16_2 m_16_3 m_16_4 m_3_23 m_16_5 hia rfl hd_yX3_looksLike rfl ⟨⟨by decide, by decide⟩, by decide, by decide⟩ (Nat.le_of_ble_eq_true rfl) rfl dX3_canLookLike_17 kxN (fun v ws1 H locs hq hP hD hS => ?_)
        rw [hq.2] at hP hD
        rw [hq.1]
        dsimp only [Option.toList, List.cons_append, List.nil_append]
        refine r_if_b0 (pc := 20) (b := tb (LOOK (lt (DP D) c pe) lk many t)) hx hb dX3_canLookLike_20 (tgt := 25) (by decide)  (fun c_20 => ?_) (fun c_20 => ?_)
        · replace c_20 := tb_no c_20
          refine lv_iinc (v := iv (t + 1)) (lv' := [(4, .int (iv (t + 1))), (0, .ref a), (1, .long (jv lk)), (3, .int (iv many))]) (pc := 25) hx hb dX3_canLookLike_25 hl (k := 3) rfl (iv_add _ _) (by decide) rfl (fun ls hl => ?_)
          refine lv_goto (pc := 28) (tgt := 3) hx hb dX3_canLookLike_28 (by decide) ?_
          exact ih_3 (t + 1) (by omega) (fun z => ((EXb.succ ht.1).mp z).elim hno c_20) (by omega) _ _ _ hP hD hS (lv_sub hl [1, 2, 3, 0] rfl)
        · replace c_20 := tb_iff.mp c_20
          refine lv_iconst (pc := 23) (v := iv 1) hx hb dX3_canLookLike_23 rfl ?_
          refine c_zret (pc := 24) hC hQ hP hD hS (by decide) (by decide) dX3_canLookLike_24 nz_1 ?_
          exact ⟨congrArg (fun z => some (Value.int z)) (bz_1 (tb_t ⟨t, by omega, by omega, c_20⟩)), rfl⟩
  exact lp_3 _ 0 (by omega) (EXb.zero (by omega)) (Nat.lt_succ_self _) _ _ _ hP hD hS (lv_sub hl [1, 2, 3, 0] rfl)

abbrev rm_c_P_repeatsAfter : Room := { frames := 0, cells := 0, slots := 0, locals := 0 }
set_option maxRecDepth 100000 in
set_option maxHeartbeats 4000000 in
theorem c_P_repeatsAfter (l : Launch) (ε : EV) (ws : va_W) (ph : Nat) (D : Nat → Int) (c : Nat) (hip : In ws ph (eI ε c D)) (hrD : ∀ k, rg (D k)) (hc : c ≤ 6) (few : Int) (hf : 0 ≤ few ∧ few ≤ c) : CT l yX3_repeatsAfter cX3_repeatsAfter 3 (some .boolean) rm_c_P_repeatsAfter ε [.ref ph, .int (iv few)] (ws) (fun v w => v = some (.int (iv (bz (tb (REPS D c few))))) ∧ w = ws) NX := by
  refine CT.intro (by decide +kernel) (Nat.le_of_ble_eq_true rfl) ?_
  intro p9 e9 s9 m9 a9 bl9 me9 c9 ls Q9 hC hE hP hD hl hQ
  have hx := hC.1
  have hb := hC.2.1
  have hK := hE.K
  have hS : WS ε s9.heap s9.heap [] := va_S.rf
  have hl : lv_has ls 3 [(0, .ref ph), (1, .int (iv few))] := hl
  obtain ⟨H, hH⟩ : ∃ H, H = s9.heap := ⟨_, rfl⟩
  obtain ⟨locs, hlo⟩ : ∃ z : List Loc, z = [] := ⟨_, rfl⟩
  rw [← hH] at hP ⊢
  have hS : WS ε s9.heap H locs := by rw [hH, hlo]; exact hS
  rw [← hlo]
  clear hH hlo
  refine lv_iload_n (pc := 0) hx hb dX3_repeatsAfter_0 rfl (lv_at hl 1 rfl) ?_
  refine lv_istore_n (lv' := [(2, .int (iv few)), (0, .ref ph), (1, .int (iv few))]) (pc := 1) hx hb dX3_repeatsAfter_1 rfl hl (by decide) rfl (fun ls hl => ?_)
  have lp_2 : ∀ (k9 : Nat) (i : Int) (hi : few ≤ i ∧ i ≤ c) (hal : REPS D i few) , (((c : Int) - i).toNat) < k9 → ∀ (H : Heap) (locs : List Loc) (ls : Array Slot), WP ε (ws) H → WD ε (ws) → WS ε s9.heap H locs → lv_has ls 3 [(0, .ref ph), (1, .int (iv few)), (2, .int (iv i))] → W p9 l e9 rm_c_P_repeatsAfter s9 m9 a9 bl9 me9 c9 H locs 0 0 Q9 (F0 m9 2 ls []) := by
    intro k9
    induction k9 with
    | zero => intro i hi hal h9; exact absurd h9 (Nat.not_lt_zero _)
    | succ k9 ih_2 =>
      intro i hi hal h9 H locs ls hP hD hS hl
      refine lv_iload_n (pc := 2) hx hb dX3_repeatsAfter_2 rfl (lv_at hl 2 rfl) ?_
      refine lv_aload_n (pc := 3) hx hb dX3_repeatsAfter_3 rfl (lv_at hl 0 rfl) ?_
      refine r_alenI (pc := 4) hC hK hP hip dX3_repeatsAfter_4 ?_
      refine r_icmp_ge (pc := 5) (a := i) (b := (c : Int)) hx hb dX3_repeatsAfter_5 (tgt := 27) (by decide) ⟨by omega, by omega⟩ ⟨by omega, by omega⟩ (fun c_5 => ?_) (fun c_5 => ?_)
      · have c_5_ := c_5
        refine lv_iconst (pc := 27) (v := iv 1) hx hb dX3_repeatsAfter_27 rfl ?_
        refine c_zret (pc := 28) hC hQ hP hD hS (by decide) (by decide) dX3_repeatsAfter_28 nz_1 ?_
        exact ⟨congrArg (fun z => some (Value.int z)) (bz_1 (tb_t (by rw [show (c : Int) = i by omega]; exact hal))), rfl⟩
      · have c_5_ := c_5
        refine lv_aload_n (pc := 8) hx hb dX3_repeatsAfter_8 rfl (lv_at hl 0 rfl) ?_
        refine lv_iload_n (pc := 9) hx hb dX3_repeatsAfter_9 rfl (lv_at hl 2 rfl) ?_
        refine r_iald (pc := 10) (z := i) hC hK hP hip ⟨by omega, by omega, by omega⟩ dX3_repeatsAfter_10 ?_
        refine lv_aload_n (pc := 11) hx hb dX3_repeatsAfter_11 rfl (lv_at hl 0 rfl) ?_
        refine lv_iload_n (pc := 12) hx hb dX3_repeatsAfter_12 rfl (lv_at hl 2 rfl) ?_
        refine lv_iload_n (pc := 13) hx hb dX3_repeatsAfter_13 rfl (lv_at hl 1 rfl) ?_
        refine r_isub (pc := 14) (a := i) (b := few) hx hb dX3_repeatsAfter_14 ?_
        refine r_iald (pc := 15) (z := i - few) hC hK hP hip ⟨by omega, by omega, by omega⟩ dX3_repeatsAfter_15 ?_
        refine r_icmp_eq (pc := 16) (a := D i.toNat) (b := D (i - few).toNat) hx hb dX3_repeatsAfter_16 (tgt := 21) (by decide) (hrD _) (hrD _) (fun c_16 => ?_) (fun c_16 => ?_)
        · have c_16_ := c_16
          refine lv_iinc (v := iv (i + 1)) (lv' := [(2, .int (iv (i + 1))), (0, .ref ph), (1, .int (iv few))]) (pc := 21) hx hb dX3_repeatsAfter_21 hl (k := 2) rfl (iv_add _ _) (by decide) rfl (fun ls hl => ?_)
          refine lv_goto (pc := 24) (tgt := 2) hx hb dX3_repeatsAfter_24 (by decide) ?_
          exact ih_2 (i + 1) (by omega) ((REPS.succ hi.1).mpr ⟨hal, c_16⟩) (by omega) _ _ _ hP hD hS (lv_sub hl [1, 2, 0] rfl)
        · have c_16_ := c_16
          have hne : ¬ (D i.toNat = D (i - few).toNat) := c_16
          refine lv_iconst (pc := 19) (v := iv 0) hx hb dX3_repeatsAfter_19 rfl ?_
          refine c_zret (pc := 20) hC hQ hP hD hS (by decide) (by decide) dX3_repeatsAfter_20 nz_0 ?_
          exact ⟨congrArg (fun z => some (Value.int z)) (bz_0 (tb_f (fun z => hne (z i (by omega) (by omega))))), rfl⟩
  exact lp_2 _ few (by omega) REPS.zero (Nat.lt_succ_self _) _ _ _ hP hD hS (lv_sub hl [1, 2, 0] rfl)

abbrev rm_c_P_fewestOf : Room := { frames := 1, cells := 0, slots := 0, locals := 40 }
set_option maxRecDepth 100000 in
set_option maxHeartbeats 4000000 in
theorem c_P_fewestOf (l : Launch) (ε : EV) (ws : va_W) (ph : Nat) (D : Nat → Int) (c : Nat) (hip : In ws ph (eI ε c D)) (hrD : ∀ k, rg (D k)) (hc : c ≤ 6) : CT l yX3_fewestOf cX3_fewestOf 2 (some .int) rm_c_P_fewestOf ε [.ref ph] (ws) (fun v w => v = some (.int (iv (CYC D c))) ∧ w = ws) NX := by
  refine CT.intro (by decide +kernel) (Nat.le_of_ble_eq_true rfl) ?_
  intro p9 e9 s9 m9 a9 bl9 me9 c9 ls Q9 hC hE hP hD hl hQ
  have hx := hC.1
  have hb := hC.2.1
  have hK := hE.K
  have hS : WS ε s9.heap s9.heap [] := va_S.rf
  have hl : lv_has ls 2 [(0, .ref ph)] := hl
  obtain ⟨H, hH⟩ : ∃ H, H = s9.heap := ⟨_, rfl⟩
  obtain ⟨locs, hlo⟩ : ∃ z : List Loc, z = [] := ⟨_, rfl⟩
  rw [← hH] at hP ⊢
  have hS : WS ε s9.heap H locs := by rw [hH, hlo]; exact hS
  rw [← hlo]
  clear hH hlo
  refine lv_iconst (pc := 0) (v := iv 2) hx hb dX3_fewestOf_0 rfl ?_
  refine lv_istore_n (lv' := [(1, .int (iv 2)), (0, .ref ph)]) (pc := 1) hx hb dX3_fewestOf_1 rfl hl (by decide) rfl (fun ls hl => ?_)
  have lp_2 : ∀ (k9 : Nat) (kf : Nat) (few : Int) (hf : 2 ≤ few ∧ few + 2 * kf = 8) (he : cycF D c kf few = CYC D c) , (kf) < k9 → ∀ (H : Heap) (locs : List Loc) (ls : Array Slot), WP ε (ws) H → WD ε (ws) → WS ε s9.heap H locs → lv_has ls 2 [(0, .ref ph), (1, .int (iv few))] → W p9 l e9 rm_c_P_fewestOf s9 m9 a9 bl9 me9 c9 H locs 0 0 Q9 (F0 m9 2 ls []) := by
    intro k9
    induction k9 with
    | zero => intro kf few hf he h9; exact absurd h9 (Nat.not_lt_zero _)
    | succ k9 ih_2 =>
      intro kf few hf he h9 H locs ls hP hD hS hl
      refine lv_iload_n (pc := 2) hx hb dX3_fewestOf_2 rfl (lv_at hl 1 rfl) ?_
      refine lv_aload_n (pc := 3) hx hb dX3_fewestOf_3 rfl (lv_at hl 0 rfl) ?_
      refine r_alenI (pc := 4) hC hK hP hip dX3_fewestOf_4 ?_
      refine r_icmp_ge (pc := 5) (a := few) (b := (c : Int)) hx hb dX3_fewestOf_5 (tgt := 31) (by decide) ⟨by omega, by omega⟩ ⟨by omega, by omega⟩ (fun c_5 => ?_) (fun c_5 => ?_)
      · have c_5_ := c_5
        have hres : (c : Int) = CYC D c := by
         cases kf with
         | zero => exact he
         | succ kg => rw [cycF, if_neg (show ¬ few < (c : Int) by omega)] at he; exact he
        refine lv_aload_n (pc := 31) hx hb dX3_fewestOf_31 rfl (lv_at hl 0 rfl) ?_
        refine r_alenI (pc := 32) hC hK hP hip dX3_fewestOf_32 ?_
        refine c_iret (pc := 33) hC hQ hP hD hS (by decide) (by decide) dX3_fewestOf_33 ?_
        exact ⟨congrArg (fun z => some (Value.int (iv z))) hres, rfl⟩
      · have c_5_ := c_5
        obtain ⟨kg, rfl⟩ : ∃ kg, kf = kg + 1 := ⟨kf - 1, by omega⟩
        rw [cycF, if_pos (show few < (c : Int) by omega)] at he
        refine lv_aload_n (pc := 8) hx hb dX3_fewestOf_8 rfl (lv_at hl 0 rfl) ?_
        refine r_alenI (pc := 9) hC hK hP hip dX3_fewestOf_9 ?_
        refine lv_iload_n (pc := 10) hx hb dX3_fewestOf_10 rfl (lv_at hl 1 rfl) ?_
        refine r_irem (pc := 11) (a := (c : Int)) (b := few) hx hb dX3_fewestOf_11 ⟨⟨by omega, by omega⟩, by omega, by omega⟩ ?_
        have hm_11 := Int.emod_nonneg ((c : Int)) (show few ≠ 0 by omega)
        have hn_11 := Int.emod_lt_of_pos ((c : Int)) (show 0 < few by omega)
        refine r_if_ne (pc := 12) (a := ((c : Int)) % few) hx hb dX3_fewestOf_12 (tgt := 25) (by decide) ⟨by omega, by omega⟩ (fun c_12 => ?_) (fun c_12 => ?_)
        · have c_12_ := c_12
          have hbk : cycF D c kg (few + 2) = CYC D c := by
           rw [tb_f (show ¬ CYK D c few from fun z => by have z1 := z.1; omega)] at he
           exact he
          refine lv_iinc (v := iv (few + 2)) (lv' := [(1, .int (iv (few + 2))), (0, .ref ph)]) (pc := 25) hx hb dX3_fewestOf_25 hl (k := 1) rfl (iv_add _ _) (by decide) rfl (fun ls hl => ?_)
          refine lv_goto (pc := 28) (tgt := 2) hx hb dX3_fewestOf_28 (by decide) ?_
          exact ih_2 kg (few + 2) (by omega) hbk (by omega) _ _ _ hP hD hS (lv_sub hl [1, 0] rfl)
        · have c_12_ := c_12
          refine lv_aload_n (pc := 15) hx hb dX3_fewestOf_15 rfl (lv_at hl 0 rfl) ?_
          refine lv_iload_n (pc := 16) hx hb dX3_fewestOf_16 rfl (lv_at hl 1 rfl) ?_
          refine c_callS (pc := 17) (y := yX3_repeatsAfter) (As := [.ref ph, .int (iv few)]) (rest := []) hC hE hP hD hS hl.1 (c_P_repeatsAfter l ε (ws) ph D c hip hrD (by omega) (few) ⟨by omega, by omega⟩) m_6_18 m_6_19 m_3_23 m_6_20 hd_yX3_repeatsAfter rfl ⟨⟨by decide, by decide⟩, by decide, by decide⟩ (Nat.le_of_ble_eq_true rfl) rfl dX3_fewestOf_17 kxN (fun v ws1 H locs hq hP hD hS => ?_)
          rw [hq.2] at hP hD
          rw [hq.1]
          dsimp only [Option.toList, List.cons_append, List.nil_append]
          refine r_if_b0 (pc := 20) (b := tb (REPS D c few)) hx hb dX3_fewestOf_20 (tgt := 25) (by decide)  (fun c_20 => ?_) (fun c_20 => ?_)
          · replace c_20 := tb_no c_20
            have hbk : cycF D c kg (few + 2) = CYC D c := by
             rw [tb_f (show ¬ CYK D c few from fun z => c_20 z.2)] at he
             exact he
            refine lv_iinc (v := iv (few + 2)) (lv' := [(1, .int (iv (few + 2))), (0, .ref ph)]) (pc := 25) hx hb dX3_fewestOf_25 hl (k := 1) rfl (iv_add _ _) (by decide) rfl (fun ls hl => ?_)
            refine lv_goto (pc := 28) (tgt := 2) hx hb dX3_fewestOf_28 (by decide) ?_
            exact ih_2 kg (few + 2) (by omega) hbk (by omega) _ _ _ hP hD hS (lv_sub hl [1, 0] rfl)
          · replace c_20 := tb_iff.mp c_20
            have hres : few = CYC D c := by
             rw [if_pos (tb_t (show CYK D c few from ⟨by omega, c_20⟩))] at he
             exact he
            refine lv_iload_n (pc := 23) hx hb dX3_fewestOf_23 rfl (lv_at hl 1 rfl) ?_
            refine c_iret (pc := 24) hC hQ hP hD hS (by decide) (by decide) dX3_fewestOf_24 ?_
            exact ⟨congrArg (fun z => some (Value.int (iv z))) hres, rfl⟩
  exact lp_2 _ 3 2 (by omega) rfl (Nat.lt_succ_self _) _ _ _ hP hD hS (lv_sub hl [1, 0] rfl)
