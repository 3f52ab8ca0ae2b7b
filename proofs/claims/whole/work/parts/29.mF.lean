abbrev rm_c_m_tells : Room := { frames := 0, cells := 0, slots := 0, locals := 0 }
set_option maxRecDepth 100000 in
set_option maxHeartbeats 4000000 in
theorem c_m_tells (l : Launch) (ε : EV) (m0 : Nat) (ad : Nat → Nat) (n : Nat → Int) (G : Nat → Nat → Int) (R : va_W) (i : Int) (hi : 0 ≤ i ∧ i < 12) (hf : G 10 i.toNat = 0 ∨ G 10 i.toNat = 1) (hh : 0 ≤ G 6 i.toNat ∧ G 6 i.toNat < 31) (h3 : 0 ≤ n 3 ∧ n 3 < 4200) : CT l yX5_tells cX5_tells 2 (some .int) rm_c_m_tells ε [.ref m0, .int (iv i)] (wM ε m0 ad n G ++ R) (fun v w => v = some (.int (iv (n 3))) ∧ w = wM ε m0 ad (va_up n 3 (n 3 + 1)) (va_up G 11 (va_up (G 11) ((n 3).toNat) (NV G i))) ++ R) NX := by
  refine CT.intro (by decide +kernel) (Nat.le_of_ble_eq_true rfl) ?_
  intro p9 e9 s9 m9 a9 bl9 me9 c9 ls Q9 hC hE hP hD hl hQ
  have hx := hC.1
  have hb := hC.2.1
  have hK := hE.K
  have hS : WS ε s9.heap s9.heap [] := va_S.rf
  have hl : lv_has ls 2 [(0, .ref m0), (1, .int (iv i))] := hl
  obtain ⟨H, hH⟩ : ∃ H, H = s9.heap := ⟨_, rfl⟩
  obtain ⟨locs, hlo⟩ : ∃ z : List Loc, z = [] := ⟨_, rfl⟩
  rw [← hH] at hP ⊢
  have hS : WS ε s9.heap H locs := by rw [hH, hlo]; exact hS
  rw [← hlo]
  clear hH hlo
  refine lv_aload_n (pc := 0) hx hb dX5_tells_0 rfl (lv_at hl 0 rfl) ?_
  refine r_get (pc := 1) hC hK hP wM_o (hc := rfl) (fun w h => wt_1 w h) 14 (by decide) m_2_4 (fun _ h => h) (v := .ref (ad 11)) rfl dX5_tells_1 ?_
  refine lv_aload_n (pc := 4) hx hb dX5_tells_4 rfl (lv_at hl 0 rfl) ?_
  refine r_get (pc := 5) hC hK hP wM_o (hc := rfl) (fun w h => wt_1 w h) 15 (by decide) m_14_5 (fun _ h => h) (v := .int (iv (n 3))) rfl dX5_tells_5 ?_
  refine lv_bipush (pc := 8) (v := iv 32) hx hb dX5_tells_8 (by decide) ?_
  refine lv_iload_n (pc := 10) hx hb dX5_tells_10 rfl (lv_at hl 1 rfl) ?_
  refine r_imul (pc := 11) (a := 32) (b := i) hx hb dX5_tells_11 ?_
  refine lv_aload_n (pc := 12) hx hb dX5_tells_12 rfl (lv_at hl 0 rfl) ?_
  refine r_get (pc := 13) hC hK hP wM_o (hc := rfl) (fun w h => wt_1 w h) 13 (by decide) m_2_3 (fun _ h => h) (v := .ref (ad 10)) rfl dX5_tells_13 ?_
  refine lv_iload_n (pc := 16) hx hb dX5_tells_16 rfl (lv_at hl 1 rfl) ?_
  refine r_zald (pc := 17) (z := i) hC hK hP wM_10 ⟨by omega, by omega, by decide⟩ dX5_tells_17 ?_
  have lp_32 : ∀ (vv : Int) (hvv : 32 * i + vv = NV G i), ∀ (H : Heap) (locs : List Loc) (ls : Array Slot), WP ε (wM ε m0 ad n G ++ R) H → WD ε (wM ε m0 ad n G ++ R) → WS ε s9.heap H locs → lv_has ls 2 [(0, .ref m0), (1, .int (iv i))] → W p9 l e9 rm_c_m_tells s9 m9 a9 bl9 me9 c9 H locs 0 0 Q9 (F0 m9 32 ls [.int (iv vv), .int (iv (32 * i)), .int (iv (n 3)), .ref (ad 11)]) := by
    intro vv hvv H locs ls hP hD hS hl
    refine r_iadd (pc := 32) (a := 32 * i) (b := vv) hx hb dX5_tells_32 ?_
    refine m_ast11 (pc := 33) (z := n 3) (v := (32 * i) + vv) hC hK hP hD hS ⟨by omega, by omega⟩ dX5_tells_33 (fun H locs hP hD hS => ?_)
    refine lv_aload_n (pc := 34) hx hb dX5_tells_34 rfl (lv_at hl 0 rfl) ?_
    refine lv_dup (pc := 35) hx hb dX5_tells_35 rfl ?_
    refine r_get (pc := 36) hC hK hP wM_o (hc := rfl) (fun w h => wt_1 w h) 15 (by decide) m_14_5 (fun _ h => h) (v := .int (iv (n 3))) rfl dX5_tells_36 ?_
    refine lv_iconst (pc := 39) (v := iv 1) hx hb dX5_tells_39 rfl ?_
    refine r_iadd (pc := 40) (a := n 3) (b := 1) hx hb dX5_tells_40 ?_
    refine m_put3 (pc := 41) (v := (n 3) + 1) hC hK hP hD hS m_14_5 dX5_tells_41 (fun H locs hP hD hS => ?_)
    refine lv_aload_n (pc := 44) hx hb dX5_tells_44 rfl (lv_at hl 0 rfl) ?_
    refine r_get (pc := 45) hC hK hP wM_o (hc := rfl) (fun w h => wt_1 w h) 15 (by decide) m_14_5 (fun _ h => h) (v := .int (iv ((n 3) + 1))) rfl dX5_tells_45 ?_
    refine lv_iconst (pc := 48) (v := iv 1) hx hb dX5_tells_48 rfl ?_
    refine r_isub (pc := 49) (a := (n 3) + 1) (b := 1) hx hb dX5_tells_49 ?_
    refine c_iret (pc := 50) hC hQ hP hD hS (by decide) (by decide) dX5_tells_50 ?_
    exact ⟨congrArg (fun z => some (Value.int (iv z))) (by omega), by rw [hvv]⟩
  refine r_if_eq (pc := 18) (a := G 10 i.toNat) hx hb dX5_tells_18 (tgt := 26) (by decide) ⟨by omega, by omega⟩ (fun c_18 => ?_) (fun c_18 => ?_)
  · have c_18_ := c_18
    refine lv_aload_n (pc := 26) hx hb dX5_tells_26 rfl (lv_at hl 0 rfl) ?_
    refine r_get (pc := 27) hC hK hP wM_o (hc := rfl) (fun w h => wt_1 w h) 9 (by decide) m_1_23 (fun _ h => h) (v := .ref (ad 6)) rfl dX5_tells_27 ?_
    refine lv_iload_n (pc := 30) hx hb dX5_tells_30 rfl (lv_at hl 1 rfl) ?_
    refine r_iald (pc := 31) (z := i) hC hK hP wM_6 ⟨by omega, by omega, by decide⟩ dX5_tells_31 ?_
    exact lp_32 (G 6 i.toNat) (by unfold NV; rw [if_pos c_18]) _ _ _ hP hD hS (lv_sub hl [0, 1] rfl)
  · have c_18_ := c_18
    refine lv_bipush (pc := 21) (v := iv 31) hx hb dX5_tells_21 (by decide) ?_
    refine lv_goto (pc := 23) (tgt := 32) hx hb dX5_tells_23 (by decide) ?_
    exact lp_32 31 (by unfold NV; rw [if_neg c_18]) _ _ _ hP hD hS (lv_sub hl [0, 1] rfl)

abbrev rm_c_m_phase : Room := { frames := 2, cells := 0, slots := 0, locals := 60 }
set_option maxRecDepth 100000 in
set_option maxHeartbeats 4000000 in
theorem c_m_phase (l : Launch) (ε : EV) (m0 : Nat) (ad : Nat → Nat) (n : Nat → Int) (G : Nat → Nat → Int) (R : va_W) (t : Int) (rt : rg t) (hD0 : VDra n G) : CT l yX5_phase cX5_phase 2 (some .int) rm_c_m_phase ε [.ref m0, .int (iv t)] (wM ε m0 ad n G ++ R) (fun v w => ((¬ (1 ≤ t ∧ t ≤ 9)) ∧ v = some (.int (iv 0)) ∧ w = wM ε m0 ad (va_up n 5 1) G ++ R) ∨ (((1 ≤ t ∧ t ≤ 9) ∧ n 0 = 6) ∧ v = some (.int (iv 0)) ∧ w = wM ε m0 ad (va_up n 5 2) G ++ R) ∨ (((1 ≤ t ∧ t ≤ 9) ∧ n 0 < 6) ∧ v = some (.int (iv (n 0 + 1))) ∧ w = wM ε m0 ad (va_up (va_up n 5 0) 0 (n 0 + 1)) (va_up G 0 (va_up (G 0) ((n 0).toNat) t)) ++ R)) NX := by
  refine CT.intro (by decide +kernel) (Nat.le_of_ble_eq_true rfl) ?_
  intro p9 e9 s9 m9 a9 bl9 me9 c9 ls Q9 hC hE hP hD hl hQ
  have hx := hC.1
  have hb := hC.2.1
  have hK := hE.K
  have hS : WS ε s9.heap s9.heap [] := va_S.rf
  have hl : lv_has ls 2 [(0, .ref m0), (1, .int (iv t))] := hl
  obtain ⟨H, hH⟩ : ∃ H, H = s9.heap := ⟨_, rfl⟩
  obtain ⟨locs, hlo⟩ : ∃ z : List Loc, z = [] := ⟨_, rfl⟩
  rw [← hH] at hP ⊢
  have hS : WS ε s9.heap H locs := by rw [hH, hlo]; exact hS
  rw [← hlo]
  clear hH hlo
  have hn0 := hD0.1
  refine lv_aload_n (pc := 0) hx hb dX5_phase_0 rfl (lv_at hl 0 rfl) ?_
  refine lv_iload_n (pc := 1) hx hb dX5_phase_1 rfl (lv_at hl 1 rfl) ?_
  refine lv_iconst (pc := 2) (v := iv 1) hx hb dX5_phase_2 rfl ?_
  refine lv_bipush (pc := 3) (v := iv 9) hx hb dX5_phase_3 (by decide) ?_
  refine c_callS (pc := 5) (y := yX5_isIn) (As := [.int (iv t), .int (iv 1), .int (iv 9)]) (rest := [.ref m0]) hC hE hP hD hS hl.1 (c_m_isIn l ε (wM ε m0 ad n G ++ R) (t) (1) (9) ⟨by omega, by omega⟩ ⟨by omega, by omega⟩ ⟨by omega, by omega⟩) m_3_5 m_3_6 m_0_5 m_3_7 hd_yX5_isIn rfl ⟨⟨by decide, by decide⟩, by decide, by decide⟩ (Nat.le_of_ble_eq_true rfl) rfl dX5_phase_5 kxN (fun v ws1 H locs hq hP hD hS => ?_)
  rw [hq.2] at hP hD
  rw [hq.1]
  dsimp only [Option.toList, List.cons_append, List.nil_append]
  refine r_if_b1 (pc := 8) (b := decide (1 ≤ t ∧ t ≤ 9)) hx hb dX5_phase_8 (tgt := 15) (by decide)  (fun c_8 => ?_) (fun c_8 => ?_)
  · replace c_8 := of_decide_eq_true c_8
    refine lv_aload_n (pc := 15) hx hb dX5_phase_15 rfl (lv_at hl 0 rfl) ?_
    refine r_get (pc := 16) hC hK hP wM_o (hc := rfl) (fun w h => wt_1 w h) 1 (by decide) m_3_3 (fun _ h => h) (v := .int (iv (n 0))) rfl dX5_phase_16 ?_
    refine lv_bipush (pc := 19) (v := iv 6) hx hb dX5_phase_19 (by decide) ?_
    refine r_icmp_ne (pc := 21) (a := n 0) (b := 6) hx hb dX5_phase_21 (tgt := 28) (by decide) ⟨by omega, by omega⟩ ⟨by omega, by omega⟩ (fun c_21 => ?_) (fun c_21 => ?_)
    · have c_21_ := c_21
      refine lv_iconst (pc := 28) (v := iv 0) hx hb dX5_phase_28 rfl ?_
      refine m_put5 (pc := 29) (v := 0) hC hK hP hD hS m_3_4 dX5_phase_29 (fun H locs hP hD hS => ?_)
      refine lv_aload_n (pc := 32) hx hb dX5_phase_32 rfl (lv_at hl 0 rfl) ?_
      refine r_get (pc := 33) hC hK hP wM_o (hc := rfl) (fun w h => wt_1 w h) 19 (by decide) m_3_4 (fun _ h => h) (v := .int (iv 0)) rfl dX5_phase_33 ?_
      refine r_if_le (pc := 36) (a := 0) hx hb dX5_phase_36 (tgt := 41) (by decide) ⟨by omega, by omega⟩ (fun c_36 => ?_) (fun c_36 => ?_)
      · have c_36_ := c_36
        refine lv_aload_n (pc := 41) hx hb dX5_phase_41 rfl (lv_at hl 0 rfl) ?_
        refine r_get (pc := 42) hC hK hP wM_o (hc := rfl) (fun w h => wt_1 w h) 0 (by decide) m_1_17 (fun _ h => h) (v := .ref (ad 0)) rfl dX5_phase_42 ?_
        refine lv_aload_n (pc := 45) hx hb dX5_phase_45 rfl (lv_at hl 0 rfl) ?_
        refine r_get (pc := 46) hC hK hP wM_o (hc := rfl) (fun w h => wt_1 w h) 1 (by decide) m_3_3 (fun _ h => h) (v := .int (iv (n 0))) rfl dX5_phase_46 ?_
        refine lv_iload_n (pc := 49) hx hb dX5_phase_49 rfl (lv_at hl 1 rfl) ?_
        refine m_ast0 (pc := 50) (z := n 0) (v := t) hC hK hP hD hS ⟨by omega, by omega⟩ dX5_phase_50 (fun H locs hP hD hS => ?_)
        refine lv_aload_n (pc := 51) hx hb dX5_phase_51 rfl (lv_at hl 0 rfl) ?_
        refine lv_dup (pc := 52) hx hb dX5_phase_52 rfl ?_
        refine r_get (pc := 53) hC hK hP wM_o (hc := rfl) (fun w h => wt_1 w h) 1 (by decide) m_3_3 (fun _ h => h) (v := .int (iv (n 0))) rfl dX5_phase_53 ?_
        refine lv_iconst (pc := 56) (v := iv 1) hx hb dX5_phase_56 rfl ?_
        refine r_iadd (pc := 57) (a := n 0) (b := 1) hx hb dX5_phase_57 ?_
        refine m_put0 (pc := 58) (v := (n 0) + 1) hC hK hP hD hS m_3_3 dX5_phase_58 (fun H locs hP hD hS => ?_)
        refine lv_aload_n (pc := 61) hx hb dX5_phase_61 rfl (lv_at hl 0 rfl) ?_
        refine r_get (pc := 62) hC hK hP wM_o (hc := rfl) (fun w h => wt_1 w h) 1 (by decide) m_3_3 (fun _ h => h) (v := .int (iv ((n 0) + 1))) rfl dX5_phase_62 ?_
        refine c_iret (pc := 65) hC hQ hP hD hS (by decide) (by decide) dX5_phase_65 ?_
        exact Or.inr (Or.inr (⟨(by omega), rfl, rfl⟩))
      · exact absurd c_36 (by decide)
    · have c_21_ := c_21
      refine lv_iconst (pc := 24) (v := iv 2) hx hb dX5_phase_24 rfl ?_
      refine lv_goto (pc := 25) (tgt := 29) hx hb dX5_phase_25 (by decide) ?_
      refine m_put5 (pc := 29) (v := 2) hC hK hP hD hS m_3_4 dX5_phase_29 (fun H locs hP hD hS => ?_)
      refine lv_aload_n (pc := 32) hx hb dX5_phase_32 rfl (lv_at hl 0 rfl) ?_
      refine r_get (pc := 33) hC hK hP wM_o (hc := rfl) (fun w h => wt_1 w h) 19 (by decide) m_3_4 (fun _ h => h) (v := .int (iv 2)) rfl dX5_phase_33 ?_
      refine r_if_le (pc := 36) (a := 2) hx hb dX5_phase_36 (tgt := 41) (by decide) ⟨by omega, by omega⟩ (fun c_36 => ?_) (fun c_36 => ?_)
      · exact absurd c_36 (by decide)
      · have c_36_ := c_36
        refine lv_iconst (pc := 39) (v := iv 0) hx hb dX5_phase_39 rfl ?_
        refine c_iret (pc := 40) hC hQ hP hD hS (by decide) (by decide) dX5_phase_40 ?_
        exact Or.inr (Or.inl (⟨(by omega), rfl, rfl⟩))
  · replace c_8 := of_decide_eq_false c_8
    refine lv_iconst (pc := 11) (v := iv 1) hx hb dX5_phase_11 rfl ?_
    refine lv_goto (pc := 12) (tgt := 29) hx hb dX5_phase_12 (by decide) ?_
    refine m_put5 (pc := 29) (v := 1) hC hK hP hD hS m_3_4 dX5_phase_29 (fun H locs hP hD hS => ?_)
    refine lv_aload_n (pc := 32) hx hb dX5_phase_32 rfl (lv_at hl 0 rfl) ?_
    refine r_get (pc := 33) hC hK hP wM_o (hc := rfl) (fun w h => wt_1 w h) 19 (by decide) m_3_4 (fun _ h => h) (v := .int (iv 1)) rfl dX5_phase_33 ?_
    refine r_if_le (pc := 36) (a := 1) hx hb dX5_phase_36 (tgt := 41) (by decide) ⟨by omega, by omega⟩ (fun c_36 => ?_) (fun c_36 => ?_)
    · exact absurd c_36 (by decide)
    · have c_36_ := c_36
      refine lv_iconst (pc := 39) (v := iv 0) hx hb dX5_phase_39 rfl ?_
      refine c_iret (pc := 40) hC hQ hP hD hS (by decide) (by decide) dX5_phase_40 ?_
      exact Or.inl (⟨(by omega), rfl, rfl⟩)

abbrev rm_c_m_pattern : Room := { frames := 0, cells := 0, slots := 0, locals := 0 }
set_option maxRecDepth 100000 in
set_option maxHeartbeats 4000000 in
theorem c_m_pattern (l : Launch) (ε : EV) (m0 : Nat) (ad : Nat → Nat) (n : Nat → Int) (G : Nat → Nat → Int) (R : va_W) (hD0 : VDra n G) (h1 : 0 ≤ n 1 ∧ n 1 ≤ 20) : CT l yX5_pattern cX5_pattern 3 (some .int) rm_c_m_pattern ε [.ref m0] (wM ε m0 ad n G ++ R) (fun v w => ((¬ ((n 0 = 2 ∨ n 0 = 4 ∨ n 0 = 6) ∧ n 1 < 20)) ∧ v = some (.int (iv 0)) ∧ w = wM ε m0 ad (va_up n 5 1) G ++ R) ∨ (((n 0 = 2 ∨ n 0 = 4 ∨ n 0 = 6) ∧ n 1 < 20) ∧ v = some (.int (iv (n 1))) ∧ w = wM ε m0 ad (va_up (va_up (va_up n 5 0) 0 0) 1 (n 1 + 1)) (va_up (PG G (n 1) (n 0)) 2 (va_up ((PG G (n 1) (n 0)) 2) ((n 1).toNat) (n 0))) ++ R)) NX := by
  refine CT.intro (by decide +kernel) (Nat.le_of_ble_eq_true rfl) ?_
  intro p9 e9 s9 m9 a9 bl9 me9 c9 ls Q9 hC hE hP hD hl hQ
  have hx := hC.1
  have hb := hC.2.1
  have hK := hE.K
  have hS : WS ε s9.heap s9.heap [] := va_S.rf
  have hl : lv_has ls 3 [(0, .ref m0)] := hl
  obtain ⟨H, hH⟩ : ∃ H, H = s9.heap := ⟨_, rfl⟩
  obtain ⟨locs, hlo⟩ : ∃ z : List Loc, z = [] := ⟨_, rfl⟩
  rw [← hH] at hP ⊢
  have hS : WS ε s9.heap H locs := by rw [hH, hlo]; exact hS
  rw [← hlo]
  clear hH hlo
  have hn0 := hD0.1
  have lp_30 : ∀ (ok : Bool) (hok : ok = true ↔ (n 0 = 2 ∨ n 0 = 4 ∨ n 0 = 6)), ∀ (H : Heap) (locs : List Loc) (ls : Array Slot), WP ε (wM ε m0 ad n G ++ R) H → WD ε (wM ε m0 ad n G ++ R) → WS ε s9.heap H locs → lv_has ls 3 [(0, .ref m0)] → W p9 l e9 rm_c_m_pattern s9 m9 a9 bl9 me9 c9 H locs 0 0 Q9 (F0 m9 30 ls [.int (iv (bz ok))]) := by
    intro ok hok H locs ls hP hD hS hl
    refine lv_istore_n (lv' := [(1, .int (iv (bz ok))), (0, .ref m0)]) (pc := 30) hx hb dX5_pattern_30 rfl hl (by decide) rfl (fun ls hl => ?_)
    have hok0 : ok = false → ¬ (n 0 = 2 ∨ n 0 = 4 ∨ n 0 = 6) := fun z1 z2 => by rw [hok.mpr z2] at z1; cases z1
    refine lv_aload_n (pc := 31) hx hb dX5_pattern_31 rfl (lv_at hl 1 rfl) ?_
    refine lv_iload_n (pc := 32) hx hb dX5_pattern_32 rfl (lv_at hl 0 rfl) ?_
    refine r_if_b0 (pc := 33) (b := ok) hx hb dX5_pattern_33 (tgt := 49) (by decide)  (fun c_33 => ?_) (fun c_33 => ?_)
    · have c_33_ := c_33
      have hok1 := hok0 c_33
      refine lv_iconst (pc := 49) (v := iv 1) hx hb dX5_pattern_49 rfl ?_
      refine m_put5 (pc := 50) (v := 1) hC hK hP hD hS m_3_4 dX5_pattern_50 (fun H locs hP hD hS => ?_)
      refine lv_aload_n (pc := 53) hx hb dX5_pattern_53 rfl (lv_at hl 1 rfl) ?_
      refine r_get (pc := 54) hC hK hP wM_o (hc := rfl) (fun w h => wt_1 w h) 19 (by decide) m_3_4 (fun _ h => h) (v := .int (iv 1)) rfl dX5_pattern_54 ?_
      refine r_if_le (pc := 57) (a := 1) hx hb dX5_pattern_57 (tgt := 62) (by decide) ⟨by omega, by omega⟩ (fun c_57 => ?_) (fun c_57 => ?_)
      · exact absurd c_57 (by decide)
      · have c_57_ := c_57
        refine lv_iconst (pc := 60) (v := iv 0) hx hb dX5_pattern_60 rfl ?_
        refine c_iret (pc := 61) hC hQ hP hD hS (by decide) (by decide) dX5_pattern_61 ?_
        exact Or.inl (⟨(by omega), rfl, rfl⟩)
    · have c_33_ := c_33
      have hok1 := hok.mp c_33
      refine lv_aload_n (pc := 36) hx hb dX5_pattern_36 rfl (lv_at hl 1 rfl) ?_
      refine r_get (pc := 37) hC hK hP wM_o (hc := rfl) (fun w h => wt_1 w h) 2 (by decide) m_7_6 (fun _ h => h) (v := .int (iv (n 1))) rfl dX5_pattern_37 ?_
      refine lv_bipush (pc := 40) (v := iv 20) hx hb dX5_pattern_40 (by decide) ?_
      refine r_icmp_ge (pc := 42) (a := n 1) (b := 20) hx hb dX5_pattern_42 (tgt := 49) (by decide) ⟨by omega, by omega⟩ ⟨by omega, by omega⟩ (fun c_42 => ?_) (fun c_42 => ?_)
      · have c_42_ := c_42
        refine lv_iconst (pc := 49) (v := iv 1) hx hb dX5_pattern_49 rfl ?_
        refine m_put5 (pc := 50) (v := 1) hC hK hP hD hS m_3_4 dX5_pattern_50 (fun H locs hP hD hS => ?_)
        refine lv_aload_n (pc := 53) hx hb dX5_pattern_53 rfl (lv_at hl 1 rfl) ?_
        refine r_get (pc := 54) hC hK hP wM_o (hc := rfl) (fun w h => wt_1 w h) 19 (by decide) m_3_4 (fun _ h => h) (v := .int (iv 1)) rfl dX5_pattern_54 ?_
        refine r_if_le (pc := 57) (a := 1) hx hb dX5_pattern_57 (tgt := 62) (by decide) ⟨by omega, by omega⟩ (fun c_57 => ?_) (fun c_57 => ?_)
        · exact absurd c_57 (by decide)
        · have c_57_ := c_57
          refine lv_iconst (pc := 60) (v := iv 0) hx hb dX5_pattern_60 rfl ?_
          refine c_iret (pc := 61) hC hQ hP hD hS (by decide) (by decide) dX5_pattern_61 ?_
          exact Or.inl (⟨(by omega), rfl, rfl⟩)
      · have c_42_ := c_42
        refine lv_iconst (pc := 45) (v := iv 0) hx hb dX5_pattern_45 rfl ?_
        refine lv_goto (pc := 46) (tgt := 50) hx hb dX5_pattern_46 (by decide) ?_
        refine m_put5 (pc := 50) (v := 0) hC hK hP hD hS m_3_4 dX5_pattern_50 (fun H locs hP hD hS => ?_)
        refine lv_aload_n (pc := 53) hx hb dX5_pattern_53 rfl (lv_at hl 1 rfl) ?_
        refine r_get (pc := 54) hC hK hP wM_o (hc := rfl) (fun w h => wt_1 w h) 19 (by decide) m_3_4 (fun _ h => h) (v := .int (iv 0)) rfl dX5_pattern_54 ?_
        refine r_if_le (pc := 57) (a := 0) hx hb dX5_pattern_57 (tgt := 62) (by decide) ⟨by omega, by omega⟩ (fun c_57 => ?_) (fun c_57 => ?_)
        · have c_57_ := c_57
          refine lv_iconst (pc := 62) (v := iv 0) hx hb dX5_pattern_62 rfl ?_
          refine lv_istore_n (lv' := [(2, .int (iv 0)), (1, .int (iv (bz ok))), (0, .ref m0)]) (pc := 63) hx hb dX5_pattern_63 rfl hl (by decide) rfl (fun ls hl => ?_)
          have lp_64 : ∀ (k9 : Nat) (k : Int) (hk : 0 ≤ k ∧ k ≤ n 0) , ((n 0 - k).toNat) < k9 → ∀ (H : Heap) (locs : List Loc) (ls : Array Slot), WP ε (wM ε m0 ad (va_up n 5 0) (PG G (n 1) k) ++ R) H → WD ε (wM ε m0 ad (va_up n 5 0) (PG G (n 1) k) ++ R) → WS ε s9.heap H locs → lv_has ls 3 [(0, .ref m0), (2, .int (iv k))] → W p9 l e9 rm_c_m_pattern s9 m9 a9 bl9 me9 c9 H locs 0 0 Q9 (F0 m9 64 ls []) := by
            intro k9
            induction k9 with
            | zero => intro k hk h9; exact absurd h9 (Nat.not_lt_zero _)
            | succ k9 ih_64 =>
              intro k hk h9 H locs ls hP hD hS hl
              refine lv_iload_n (pc := 64) hx hb dX5_pattern_64 rfl (lv_at hl 1 rfl) ?_
              refine lv_aload_n (pc := 65) hx hb dX5_pattern_65 rfl (lv_at hl 0 rfl) ?_
              refine r_get (pc := 66) hC hK hP wM_o (hc := rfl) (fun w h => wt_1 w h) 1 (by decide) m_3_3 (fun _ h => h) (v := .int (iv (n 0))) rfl dX5_pattern_66 ?_
              refine r_icmp_ge (pc := 69) (a := k) (b := n 0) hx hb dX5_pattern_69 (tgt := 116) (by decide) ⟨by omega, by omega⟩ ⟨by omega, by omega⟩ (fun c_69 => ?_) (fun c_69 => ?_)
              · have c_69_ := c_69
                rw [show k = n 0 by omega] at hP hD
                refine lv_aload_n (pc := 116) hx hb dX5_pattern_116 rfl (lv_at hl 0 rfl) ?_
                refine r_get (pc := 117) hC hK hP wM_o (hc := rfl) (fun w h => wt_1 w h) 4 (by decide) m_1_19 (fun _ h => h) (v := .ref (ad 2)) rfl dX5_pattern_117 ?_
                refine lv_aload_n (pc := 120) hx hb dX5_pattern_120 rfl (lv_at hl 0 rfl) ?_
                refine r_get (pc := 121) hC hK hP wM_o (hc := rfl) (fun w h => wt_1 w h) 2 (by decide) m_7_6 (fun _ h => h) (v := .int (iv (n 1))) rfl dX5_pattern_121 ?_
                refine lv_aload_n (pc := 124) hx hb dX5_pattern_124 rfl (lv_at hl 0 rfl) ?_
                refine r_get (pc := 125) hC hK hP wM_o (hc := rfl) (fun w h => wt_1 w h) 1 (by decide) m_3_3 (fun _ h => h) (v := .int (iv (n 0))) rfl dX5_pattern_125 ?_
                refine m_ast2 (pc := 128) (z := n 1) (v := n 0) hC hK hP hD hS ⟨by omega, by omega⟩ dX5_pattern_128 (fun H locs hP hD hS => ?_)
                refine lv_aload_n (pc := 129) hx hb dX5_pattern_129 rfl (lv_at hl 0 rfl) ?_
                refine lv_iconst (pc := 130) (v := iv 0) hx hb dX5_pattern_130 rfl ?_
                refine m_put0 (pc := 131) (v := 0) hC hK hP hD hS m_3_3 dX5_pattern_131 (fun H locs hP hD hS => ?_)
                refine lv_aload_n (pc := 134) hx hb dX5_pattern_134 rfl (lv_at hl 0 rfl) ?_
                refine lv_dup (pc := 135) hx hb dX5_pattern_135 rfl ?_
                refine r_get (pc := 136) hC hK hP wM_o (hc := rfl) (fun w h => wt_1 w h) 2 (by decide) m_7_6 (fun _ h => h) (v := .int (iv (n 1))) rfl dX5_pattern_136 ?_
                refine lv_iconst (pc := 139) (v := iv 1) hx hb dX5_pattern_139 rfl ?_
                refine r_iadd (pc := 140) (a := n 1) (b := 1) hx hb dX5_pattern_140 ?_
                refine m_put1 (pc := 141) (v := (n 1) + 1) hC hK hP hD hS m_7_6 dX5_pattern_141 (fun H locs hP hD hS => ?_)
                refine lv_aload_n (pc := 144) hx hb dX5_pattern_144 rfl (lv_at hl 0 rfl) ?_
                refine r_get (pc := 145) hC hK hP wM_o (hc := rfl) (fun w h => wt_1 w h) 2 (by decide) m_7_6 (fun _ h => h) (v := .int (iv ((n 1) + 1))) rfl dX5_pattern_145 ?_
                refine lv_iconst (pc := 148) (v := iv 1) hx hb dX5_pattern_148 rfl ?_
                refine r_isub (pc := 149) (a := (n 1) + 1) (b := 1) hx hb dX5_pattern_149 ?_
                refine c_iret (pc := 150) hC hQ hP hD hS (by decide) (by decide) dX5_pattern_150 ?_
                exact Or.inr (⟨(by omega), congrArg (fun z => some (Value.int (iv z))) (by omega), rfl⟩)
              · have c_69_ := c_69
                refine lv_aload_n (pc := 72) hx hb dX5_pattern_72 rfl (lv_at hl 0 rfl) ?_
                refine r_get (pc := 73) hC hK hP wM_o (hc := rfl) (fun w h => wt_1 w h) 3 (by decide) m_1_18 (fun _ h => h) (v := .ref (ad 1)) rfl dX5_pattern_73 ?_
                refine lv_bipush (pc := 76) (v := iv 6) hx hb dX5_pattern_76 (by decide) ?_
                refine lv_aload_n (pc := 78) hx hb dX5_pattern_78 rfl (lv_at hl 0 rfl) ?_
                refine r_get (pc := 79) hC hK hP wM_o (hc := rfl) (fun w h => wt_1 w h) 2 (by decide) m_7_6 (fun _ h => h) (v := .int (iv (n 1))) rfl dX5_pattern_79 ?_
                refine r_imul (pc := 82) (a := 6) (b := n 1) hx hb dX5_pattern_82 ?_
                refine lv_iload_n (pc := 83) hx hb dX5_pattern_83 rfl (lv_at hl 1 rfl) ?_
                refine r_iadd (pc := 84) (a := 6 * (n 1)) (b := k) hx hb dX5_pattern_84 ?_
                refine lv_aload_n (pc := 85) hx hb dX5_pattern_85 rfl (lv_at hl 0 rfl) ?_
                refine r_get (pc := 86) hC hK hP wM_o (hc := rfl) (fun w h => wt_1 w h) 0 (by decide) m_1_17 (fun _ h => h) (v := .ref (ad 0)) rfl dX5_pattern_86 ?_
                refine lv_iload_n (pc := 89) hx hb dX5_pattern_89 rfl (lv_at hl 1 rfl) ?_
                refine r_iald (pc := 90) (z := k) hC hK hP wM_0 ⟨by omega, by omega, by decide⟩ dX5_pattern_90 ?_
                refine m_ast1 (pc := 91) (z := (6 * (n 1)) + k) (v := PG G (n 1) k 0 k.toNat) hC hK hP hD hS ⟨by omega, by omega⟩ dX5_pattern_91 (fun H locs hP hD hS => ?_)
                refine lv_aload_n (pc := 92) hx hb dX5_pattern_92 rfl (lv_at hl 0 rfl) ?_
                refine r_get (pc := 93) hC hK hP wM_o (hc := rfl) (fun w h => wt_1 w h) 5 (by decide) m_1_20 (fun _ h => h) (v := .ref (ad 3)) rfl dX5_pattern_93 ?_
                refine lv_aload_n (pc := 96) hx hb dX5_pattern_96 rfl (lv_at hl 0 rfl) ?_
                refine r_get (pc := 97) hC hK hP wM_o (hc := rfl) (fun w h => wt_1 w h) 2 (by decide) m_7_6 (fun _ h => h) (v := .int (iv (n 1))) rfl dX5_pattern_97 ?_
                refine lv_dup2_11 (pc := 100) hx hb dX5_pattern_100 rfl rfl ?_
                refine r_iald (pc := 101) (z := n 1) hC hK hP wM_3 ⟨by omega, by omega, by decide⟩ dX5_pattern_101 ?_
                refine lv_aload_n (pc := 102) hx hb dX5_pattern_102 rfl (lv_at hl 0 rfl) ?_
                refine r_get (pc := 103) hC hK hP wM_o (hc := rfl) (fun w h => wt_1 w h) 0 (by decide) m_1_17 (fun _ h => h) (v := .ref (ad 0)) rfl dX5_pattern_103 ?_
                refine lv_iload_n (pc := 106) hx hb dX5_pattern_106 rfl (lv_at hl 1 rfl) ?_
                refine r_iald (pc := 107) (z := k) hC hK hP wM_0 ⟨by omega, by omega, by decide⟩ dX5_pattern_107 ?_
                refine r_iadd (pc := 108) (a := PG G (n 1) k 3 (n 1).toNat) (b := PG G (n 1) k 0 k.toNat) hx hb dX5_pattern_108 ?_
                refine m_ast3 (pc := 109) (z := n 1) (v := (PG G (n 1) k 3 (n 1).toNat) + (PG G (n 1) k 0 k.toNat)) hC hK hP hD hS ⟨by omega, by omega⟩ dX5_pattern_109 (fun H locs hP hD hS => ?_)
                refine lv_iinc (v := iv (k + 1)) (lv' := [(2, .int (iv (k + 1))), (0, .ref m0)]) (pc := 110) hx hb dX5_pattern_110 hl (k := 1) rfl (iv_add _ _) (by decide) rfl (fun ls hl => ?_)
                refine lv_goto (pc := 113) (tgt := 64) hx hb dX5_pattern_113 (by decide) ?_
                have hPG : va_up (va_up (PG G (n 1) k) 1 (va_up ((PG G (n 1) k) 1) ((6 * (n 1)) + k).toNat (PG G (n 1) k 0 k.toNat))) 3 (va_up ((va_up (PG G (n 1) k) 1 (va_up ((PG G (n 1) k) 1) ((6 * (n 1)) + k).toNat (PG G (n 1) k 0 k.toNat))) 3) (n 1).toNat ((PG G (n 1) k 3 (n 1).toNat) + (PG G (n 1) k 0 k.toNat))) = PG G (n 1) (k + 1) := PG.step (by omega) (by omega) rfl
                rw [hPG] at hP hD
                exact ih_64 (k + 1) (by omega) (by omega) _ _ _ hP hD hS (lv_sub hl [1, 0] rfl)
          rw [← PG.zero G (n 1)] at hP hD
          exact lp_64 _ 0 (by omega) (Nat.lt_succ_self _) _ _ _ hP hD hS (lv_sub hl [2, 0] rfl)
        · exact absurd c_57 (by decide)
  refine lv_aload_n (pc := 0) hx hb dX5_pattern_0 rfl (lv_at hl 0 rfl) ?_
  refine r_get (pc := 1) hC hK hP wM_o (hc := rfl) (fun w h => wt_1 w h) 1 (by decide) m_3_3 (fun _ h => h) (v := .int (iv (n 0))) rfl dX5_pattern_1 ?_
  refine lv_iconst (pc := 4) (v := iv 2) hx hb dX5_pattern_4 rfl ?_
  refine r_icmp_eq (pc := 5) (a := n 0) (b := 2) hx hb dX5_pattern_5 (tgt := 25) (by decide) ⟨by omega, by omega⟩ ⟨by omega, by omega⟩ (fun c_5 => ?_) (fun c_5 => ?_)
  · have c_5_ := c_5
    refine lv_iconst (pc := 25) (v := iv 1) hx hb dX5_pattern_25 rfl ?_
    refine lv_goto (pc := 26) (tgt := 30) hx hb dX5_pattern_26 (by decide) ?_
    exact lp_30 true ⟨fun _ => (by omega), fun _ => rfl⟩ _ _ _ hP hD hS (lv_sub hl [0] rfl)
  · have c_5_ := c_5
    refine lv_aload_n (pc := 8) hx hb dX5_pattern_8 rfl (lv_at hl 0 rfl) ?_
    refine r_get (pc := 9) hC hK hP wM_o (hc := rfl) (fun w h => wt_1 w h) 1 (by decide) m_3_3 (fun _ h => h) (v := .int (iv (n 0))) rfl dX5_pattern_9 ?_
    refine lv_iconst (pc := 12) (v := iv 4) hx hb dX5_pattern_12 rfl ?_
    refine r_icmp_eq (pc := 13) (a := n 0) (b := 4) hx hb dX5_pattern_13 (tgt := 25) (by decide) ⟨by omega, by omega⟩ ⟨by omega, by omega⟩ (fun c_13 => ?_) (fun c_13 => ?_)
    · have c_13_ := c_13
      refine lv_iconst (pc := 25) (v := iv 1) hx hb dX5_pattern_25 rfl ?_
      refine lv_goto (pc := 26) (tgt := 30) hx hb dX5_pattern_26 (by decide) ?_
      exact lp_30 true ⟨fun _ => (by omega), fun _ => rfl⟩ _ _ _ hP hD hS (lv_sub hl [0] rfl)
    · have c_13_ := c_13
      refine lv_aload_n (pc := 16) hx hb dX5_pattern_16 rfl (lv_at hl 0 rfl) ?_
      refine r_get (pc := 17) hC hK hP wM_o (hc := rfl) (fun w h => wt_1 w h) 1 (by decide) m_3_3 (fun _ h => h) (v := .int (iv (n 0))) rfl dX5_pattern_17 ?_
      refine lv_bipush (pc := 20) (v := iv 6) hx hb dX5_pattern_20 (by decide) ?_
      refine r_icmp_ne (pc := 22) (a := n 0) (b := 6) hx hb dX5_pattern_22 (tgt := 29) (by decide) ⟨by omega, by omega⟩ ⟨by omega, by omega⟩ (fun c_22 => ?_) (fun c_22 => ?_)
      · have c_22_ := c_22
        refine lv_iconst (pc := 29) (v := iv 0) hx hb dX5_pattern_29 rfl ?_
        exact lp_30 false ⟨fun z => (by cases z), fun z => (by omega)⟩ _ _ _ hP hD hS (lv_sub hl [0] rfl)
      · have c_22_ := c_22
        refine lv_iconst (pc := 25) (v := iv 1) hx hb dX5_pattern_25 rfl ?_
        refine lv_goto (pc := 26) (tgt := 30) hx hb dX5_pattern_26 (by decide) ?_
        exact lp_30 true ⟨fun _ => (by omega), fun _ => rfl⟩ _ _ _ hP hD hS (lv_sub hl [0] rfl)

abbrev rm_c_m_lamp : Room := { frames := 2, cells := 0, slots := 0, locals := 60 }
set_option maxRecDepth 100000 in
set_option maxHeartbeats 4000000 in
theorem c_m_lamp (l : Launch) (ε : EV) (m0 : Nat) (ad : Nat → Nat) (n : Nat → Int) (G : Nat → Nat → Int) (R : va_W) (x y q rc se : Int) (rx : rg x) (ry : rg y) (rq : rg q) (rr : rg rc) (rs : rg se) (hV1 : VPat n G) (hV : VLam n G) (hz : n 2 < 12 → G 10 (n 2).toNat = 0) (h3 : 0 ≤ n 3 ∧ n 3 < 4200) : CT l yX5_lamp cX5_lamp 7 (some .int) rm_c_m_lamp ε [.ref m0, .int (iv x), .int (iv y), .int (iv q), .int (iv rc), .int (iv se)] (wM ε m0 ad n G ++ R) (fun v w => ((¬ (0 ≤ q ∧ q < n 1)) ∧ v = some (.int (iv 0)) ∧ w = wM ε m0 ad (va_up n 5 1) G ++ R) ∨ (((0 ≤ q ∧ q < n 1) ∧ ¬ (((0 ≤ x ∧ x ≤ 31) ∧ 0 ≤ y ∧ y ≤ 31) ∧ (1 ≤ rc ∧ rc ≤ 40) ∧ 1 ≤ se ∧ se ≤ 255)) ∧ v = some (.int (iv 0)) ∧ w = wM ε m0 ad (va_up n 5 2) G ++ R) ∨ ((((0 ≤ q ∧ q < n 1) ∧ (((0 ≤ x ∧ x ≤ 31) ∧ 0 ≤ y ∧ y ≤ 31) ∧ (1 ≤ rc ∧ rc ≤ 40) ∧ 1 ≤ se ∧ se ≤ 255)) ∧ n 2 = 12) ∧ v = some (.int (iv 0)) ∧ w = wM ε m0 ad (va_up n 5 3) G ++ R) ∨ ((((0 ≤ q ∧ q < n 1) ∧ (((0 ≤ x ∧ x ≤ 31) ∧ 0 ≤ y ∧ y ≤ 31) ∧ (1 ≤ rc ∧ rc ≤ 40) ∧ 1 ≤ se ∧ se ≤ 255)) ∧ n 2 < 12) ∧ v = some (.int (iv (n 2))) ∧ w = wM ε m0 ad (va_up (va_up (va_up n 5 0) 2 (n 2 + 1)) 3 (n 3 + 1)) (va_up (va_up (va_up (va_up (va_up (va_up G 4 (va_up (G 4) ((n 2).toNat) x)) 5 (va_up ((va_up G 4 (va_up (G 4) ((n 2).toNat) x)) 5) ((n 2).toNat) y)) 6 (va_up ((va_up (va_up G 4 (va_up (G 4) ((n 2).toNat) x)) 5 (va_up ((va_up G 4 (va_up (G 4) ((n 2).toNat) x)) 5) ((n 2).toNat) y)) 6) ((n 2).toNat) q)) 8 (va_up ((va_up (va_up (va_up G 4 (va_up (G 4) ((n 2).toNat) x)) 5 (va_up ((va_up G 4 (va_up (G 4) ((n 2).toNat) x)) 5) ((n 2).toNat) y)) 6 (va_up ((va_up (va_up G 4 (va_up (G 4) ((n 2).toNat) x)) 5 (va_up ((va_up G 4 (va_up (G 4) ((n 2).toNat) x)) 5) ((n 2).toNat) y)) 6) ((n 2).toNat) q)) 8) ((n 2).toNat) rc)) 9 (va_up ((va_up (va_up (va_up (va_up G 4 (va_up (G 4) ((n 2).toNat) x)) 5 (va_up ((va_up G 4 (va_up (G 4) ((n 2).toNat) x)) 5) ((n 2).toNat) y)) 6 (va_up ((va_up (va_up G 4 (va_up (G 4) ((n 2).toNat) x)) 5 (va_up ((va_up G 4 (va_up (G 4) ((n 2).toNat) x)) 5) ((n 2).toNat) y)) 6) ((n 2).toNat) q)) 8 (va_up ((va_up (va_up (va_up G 4 (va_up (G 4) ((n 2).toNat) x)) 5 (va_up ((va_up G 4 (va_up (G 4) ((n 2).toNat) x)) 5) ((n 2).toNat) y)) 6 (va_up ((va_up (va_up G 4 (va_up (G 4) ((n 2).toNat) x)) 5 (va_up ((va_up G 4 (va_up (G 4) ((n 2).toNat) x)) 5) ((n 2).toNat) y)) 6) ((n 2).toNat) q)) 8) ((n 2).toNat) rc)) 9) ((n 2).toNat) se)) 11 (va_up ((va_up (va_up (va_up (va_up (va_up G 4 (va_up (G 4) ((n 2).toNat) x)) 5 (va_up ((va_up G 4 (va_up (G 4) ((n 2).toNat) x)) 5) ((n 2).toNat) y)) 6 (va_up ((va_up (va_up G 4 (va_up (G 4) ((n 2).toNat) x)) 5 (va_up ((va_up G 4 (va_up (G 4) ((n 2).toNat) x)) 5) ((n 2).toNat) y)) 6) ((n 2).toNat) q)) 8 (va_up ((va_up (va_up (va_up G 4 (va_up (G 4) ((n 2).toNat) x)) 5 (va_up ((va_up G 4 (va_up (G 4) ((n 2).toNat) x)) 5) ((n 2).toNat) y)) 6 (va_up ((va_up (va_up G 4 (va_up (G 4) ((n 2).toNat) x)) 5 (va_up ((va_up G 4 (va_up (G 4) ((n 2).toNat) x)) 5) ((n 2).toNat) y)) 6) ((n 2).toNat) q)) 8) ((n 2).toNat) rc)) 9 (va_up ((va_up (va_up (va_up (va_up G 4 (va_up (G 4) ((n 2).toNat) x)) 5 (va_up ((va_up G 4 (va_up (G 4) ((n 2).toNat) x)) 5) ((n 2).toNat) y)) 6 (va_up ((va_up (va_up G 4 (va_up (G 4) ((n 2).toNat) x)) 5 (va_up ((va_up G 4 (va_up (G 4) ((n 2).toNat) x)) 5) ((n 2).toNat) y)) 6) ((n 2).toNat) q)) 8 (va_up ((va_up (va_up (va_up G 4 (va_up (G 4) ((n 2).toNat) x)) 5 (va_up ((va_up G 4 (va_up (G 4) ((n 2).toNat) x)) 5) ((n 2).toNat) y)) 6 (va_up ((va_up (va_up G 4 (va_up (G 4) ((n 2).toNat) x)) 5 (va_up ((va_up G 4 (va_up (G 4) ((n 2).toNat) x)) 5) ((n 2).toNat) y)) 6) ((n 2).toNat) q)) 8) ((n 2).toNat) rc)) 9) ((n 2).toNat) se)) 11) ((n 3).toNat) (NV (va_up (va_up (va_up (va_up (va_up G 4 (va_up (G 4) ((n 2).toNat) x)) 5 (va_up ((va_up G 4 (va_up (G 4) ((n 2).toNat) x)) 5) ((n 2).toNat) y)) 6 (va_up ((va_up (va_up G 4 (va_up (G 4) ((n 2).toNat) x)) 5 (va_up ((va_up G 4 (va_up (G 4) ((n 2).toNat) x)) 5) ((n 2).toNat) y)) 6) ((n 2).toNat) q)) 8 (va_up ((va_up (va_up (va_up G 4 (va_up (G 4) ((n 2).toNat) x)) 5 (va_up ((va_up G 4 (va_up (G 4) ((n 2).toNat) x)) 5) ((n 2).toNat) y)) 6 (va_up ((va_up (va_up G 4 (va_up (G 4) ((n 2).toNat) x)) 5 (va_up ((va_up G 4 (va_up (G 4) ((n 2).toNat) x)) 5) ((n 2).toNat) y)) 6) ((n 2).toNat) q)) 8) ((n 2).toNat) rc)) 9 (va_up ((va_up (va_up (va_up (va_up G 4 (va_up (G 4) ((n 2).toNat) x)) 5 (va_up ((va_up G 4 (va_up (G 4) ((n 2).toNat) x)) 5) ((n 2).toNat) y)) 6 (va_up ((va_up (va_up G 4 (va_up (G 4) ((n 2).toNat) x)) 5 (va_up ((va_up G 4 (va_up (G 4) ((n 2).toNat) x)) 5) ((n 2).toNat) y)) 6) ((n 2).toNat) q)) 8 (va_up ((va_up (va_up (va_up G 4 (va_up (G 4) ((n 2).toNat) x)) 5 (va_up ((va_up G 4 (va_up (G 4) ((n 2).toNat) x)) 5) ((n 2).toNat) y)) 6 (va_up ((va_up (va_up G 4 (va_up (G 4) ((n 2).toNat) x)) 5 (va_up ((va_up G 4 (va_up (G 4) ((n 2).toNat) x)) 5) ((n 2).toNat) y)) 6) ((n 2).toNat) q)) 8) ((n 2).toNat) rc)) 9) ((n 2).toNat) se)) (n 2)))) ++ R)) NX := by
  refine CT.intro (by decide +kernel) (Nat.le_of_ble_eq_true rfl) ?_
  intro p9 e9 s9 m9 a9 bl9 me9 c9 ls Q9 hC hE hP hD hl hQ
  have hx := hC.1
  have hb := hC.2.1
  have hK := hE.K
  have hS : WS ε s9.heap s9.heap [] := va_S.rf
  have hl : lv_has ls 7 [(0, .ref m0), (1, .int (iv x)), (2, .int (iv y)), (3, .int (iv q)), (4, .int (iv rc)), (5, .int (iv se))] := hl
  obtain ⟨H, hH⟩ : ∃ H, H = s9.heap := ⟨_, rfl⟩
  obtain ⟨locs, hlo⟩ : ∃ z : List Loc, z = [] := ⟨_, rfl⟩
  rw [← hH] at hP ⊢
  have hS : WS ε s9.heap H locs := by rw [hH, hlo]; exact hS
  rw [← hlo]
  clear hH hlo
  have hn1 := hV1.1
  have hn2 := hV.1
  have lp_36 : ∀ (ok : Bool) (hok : ok = true ↔ ((0 ≤ x ∧ x ≤ 31) ∧ 0 ≤ y ∧ y ≤ 31) ∧ (1 ≤ rc ∧ rc ≤ 40) ∧ 1 ≤ se ∧ se ≤ 255), ∀ (H : Heap) (locs : List Loc) (ls : Array Slot), WP ε (wM ε m0 ad n G ++ R) H → WD ε (wM ε m0 ad n G ++ R) → WS ε s9.heap H locs → lv_has ls 7 [(0, .ref m0), (1, .int (iv x)), (2, .int (iv y)), (3, .int (iv q)), (4, .int (iv rc)), (5, .int (iv se))] → W p9 l e9 rm_c_m_lamp s9 m9 a9 bl9 me9 c9 H locs 0 0 Q9 (F0 m9 36 ls [.int (iv (bz ok))]) := by
    intro ok hok H locs ls hP hD hS hl
    refine lv_istore (lv' := [(6, .int (iv (bz ok))), (0, .ref m0), (1, .int (iv x)), (2, .int (iv y)), (3, .int (iv q)), (4, .int (iv rc)), (5, .int (iv se))]) (pc := 36) hx hb dX5_lamp_36 hl (by decide) rfl (fun ls hl => ?_)
    have hok0 : ok = false → ¬ (((0 ≤ x ∧ x ≤ 31) ∧ 0 ≤ y ∧ y ≤ 31) ∧ (1 ≤ rc ∧ rc ≤ 40) ∧ 1 ≤ se ∧ se ≤ 255) := fun z1 z2 => by rw [hok.mpr z2] at z1; cases z1
    refine lv_aload_n (pc := 38) hx hb dX5_lamp_38 rfl (lv_at hl 1 rfl) ?_
    refine lv_aload_n (pc := 39) hx hb dX5_lamp_39 rfl (lv_at hl 1 rfl) ?_
    refine lv_iload_n (pc := 40) hx hb dX5_lamp_40 rfl (lv_at hl 4 rfl) ?_
    refine c_callV (pc := 41) (y := yX5_isPattern) (As := [.int (iv q)]) (rest := [.ref m0]) hC hE hP hD hS hl.1 (c_m_isPattern l ε m0 ad n G R (q) ⟨by omega, by omega⟩ ⟨by omega, by omega⟩) m_8_22 m_8_23 m_8_24 m_0_5 m_9_0 wM_o rfl hd_yX5_isPattern rfl ⟨⟨by decide, by decide⟩, by decide, by decide⟩ (Nat.le_of_ble_eq_true rfl) rfl dX5_lamp_41 kxN (fun v ws1 H locs hq hP hD hS => ?_)
    rw [hq.2] at hP hD
    rw [hq.1]
    dsimp only [Option.toList, List.cons_append, List.nil_append]
    refine r_if_b1 (pc := 44) (b := decide (0 ≤ q ∧ q < n 1)) hx hb dX5_lamp_44 (tgt := 51) (by decide)  (fun c_44 => ?_) (fun c_44 => ?_)
    · replace c_44 := of_decide_eq_true c_44
      refine lv_iload (pc := 51) hx hb dX5_lamp_51 (lv_at hl 0 rfl) ?_
      refine r_if_b1 (pc := 53) (b := ok) hx hb dX5_lamp_53 (tgt := 60) (by decide)  (fun c_53 => ?_) (fun c_53 => ?_)
      · have c_53_ := c_53
        have hok1 := hok.mp c_53
        refine lv_aload_n (pc := 60) hx hb dX5_lamp_60 rfl (lv_at hl 1 rfl) ?_
        refine r_get (pc := 61) hC hK hP wM_o (hc := rfl) (fun w h => wt_1 w h) 6 (by decide) m_13_22 (fun _ h => h) (v := .int (iv (n 2))) rfl dX5_lamp_61 ?_
        refine lv_bipush (pc := 64) (v := iv 12) hx hb dX5_lamp_64 (by decide) ?_
        refine r_icmp_ne (pc := 66) (a := n 2) (b := 12) hx hb dX5_lamp_66 (tgt := 73) (by decide) ⟨by omega, by omega⟩ ⟨by omega, by omega⟩ (fun c_66 => ?_) (fun c_66 => ?_)
        · have c_66_ := c_66
          refine lv_iconst (pc := 73) (v := iv 0) hx hb dX5_lamp_73 rfl ?_
          refine m_put5 (pc := 74) (v := 0) hC hK hP hD hS m_3_4 dX5_lamp_74 (fun H locs hP hD hS => ?_)
          refine lv_aload_n (pc := 77) hx hb dX5_lamp_77 rfl (lv_at hl 1 rfl) ?_
          refine r_get (pc := 78) hC hK hP wM_o (hc := rfl) (fun w h => wt_1 w h) 19 (by decide) m_3_4 (fun _ h => h) (v := .int (iv 0)) rfl dX5_lamp_78 ?_
          refine r_if_le (pc := 81) (a := 0) hx hb dX5_lamp_81 (tgt := 86) (by decide) ⟨by omega, by omega⟩ (fun c_81 => ?_) (fun c_81 => ?_)
          · have c_81_ := c_81
            refine lv_aload_n (pc := 86) hx hb dX5_lamp_86 rfl (lv_at hl 1 rfl) ?_
            refine r_get (pc := 87) hC hK hP wM_o (hc := rfl) (fun w h => wt_1 w h) 7 (by decide) m_1_21 (fun _ h => h) (v := .ref (ad 4)) rfl dX5_lamp_87 ?_
            refine lv_aload_n (pc := 90) hx hb dX5_lamp_90 rfl (lv_at hl 1 rfl) ?_
            refine r_get (pc := 91) hC hK hP wM_o (hc := rfl) (fun w h => wt_1 w h) 6 (by decide) m_13_22 (fun _ h => h) (v := .int (iv (n 2))) rfl dX5_lamp_91 ?_
            refine lv_iload_n (pc := 94) hx hb dX5_lamp_94 rfl (lv_at hl 2 rfl) ?_
            refine m_ast4 (pc := 95) (z := n 2) (v := x) hC hK hP hD hS ⟨by omega, by omega⟩ dX5_lamp_95 (fun H locs hP hD hS => ?_)
            refine lv_aload_n (pc := 96) hx hb dX5_lamp_96 rfl (lv_at hl 1 rfl) ?_
            refine r_get (pc := 97) hC hK hP wM_o (hc := rfl) (fun w h => wt_1 w h) 8 (by decide) m_1_22 (fun _ h => h) (v := .ref (ad 5)) rfl dX5_lamp_97 ?_
            refine lv_aload_n (pc := 100) hx hb dX5_lamp_100 rfl (lv_at hl 1 rfl) ?_
            refine r_get (pc := 101) hC hK hP wM_o (hc := rfl) (fun w h => wt_1 w h) 6 (by decide) m_13_22 (fun _ h => h) (v := .int (iv (n 2))) rfl dX5_lamp_101 ?_
            refine lv_iload_n (pc := 104) hx hb dX5_lamp_104 rfl (lv_at hl 3 rfl) ?_
            refine m_ast5 (pc := 105) (z := n 2) (v := y) hC hK hP hD hS ⟨by omega, by omega⟩ dX5_lamp_105 (fun H locs hP hD hS => ?_)
            refine lv_aload_n (pc := 106) hx hb dX5_lamp_106 rfl (lv_at hl 1 rfl) ?_
            refine r_get (pc := 107) hC hK hP wM_o (hc := rfl) (fun w h => wt_1 w h) 9 (by decide) m_1_23 (fun _ h => h) (v := .ref (ad 6)) rfl dX5_lamp_107 ?_
            refine lv_aload_n (pc := 110) hx hb dX5_lamp_110 rfl (lv_at hl 1 rfl) ?_
            refine r_get (pc := 111) hC hK hP wM_o (hc := rfl) (fun w h => wt_1 w h) 6 (by decide) m_13_22 (fun _ h => h) (v := .int (iv (n 2))) rfl dX5_lamp_111 ?_
            refine lv_iload_n (pc := 114) hx hb dX5_lamp_114 rfl (lv_at hl 4 rfl) ?_
            refine m_ast6 (pc := 115) (z := n 2) (v := q) hC hK hP hD hS ⟨by omega, by omega⟩ dX5_lamp_115 (fun H locs hP hD hS => ?_)
            refine lv_aload_n (pc := 116) hx hb dX5_lamp_116 rfl (lv_at hl 1 rfl) ?_
            refine r_get (pc := 117) hC hK hP wM_o (hc := rfl) (fun w h => wt_1 w h) 11 (by decide) m_2_0 (fun _ h => h) (v := .ref (ad 8)) rfl dX5_lamp_117 ?_
            refine lv_aload_n (pc := 120) hx hb dX5_lamp_120 rfl (lv_at hl 1 rfl) ?_
            refine r_get (pc := 121) hC hK hP wM_o (hc := rfl) (fun w h => wt_1 w h) 6 (by decide) m_13_22 (fun _ h => h) (v := .int (iv (n 2))) rfl dX5_lamp_121 ?_
            refine lv_iload (pc := 124) hx hb dX5_lamp_124 (lv_at hl 5 rfl) ?_
            refine m_ast8 (pc := 126) (z := n 2) (v := rc) hC hK hP hD hS ⟨by omega, by omega⟩ dX5_lamp_126 (fun H locs hP hD hS => ?_)
            refine lv_aload_n (pc := 127) hx hb dX5_lamp_127 rfl (lv_at hl 1 rfl) ?_
            refine r_get (pc := 128) hC hK hP wM_o (hc := rfl) (fun w h => wt_1 w h) 12 (by decide) m_2_1 (fun _ h => h) (v := .ref (ad 9)) rfl dX5_lamp_128 ?_
            refine lv_aload_n (pc := 131) hx hb dX5_lamp_131 rfl (lv_at hl 1 rfl) ?_
            refine r_get (pc := 132) hC hK hP wM_o (hc := rfl) (fun w h => wt_1 w h) 6 (by decide) m_13_22 (fun _ h => h) (v := .int (iv (n 2))) rfl dX5_lamp_132 ?_
            refine lv_iload (pc := 135) hx hb dX5_lamp_135 (lv_at hl 6 rfl) ?_
            refine m_ast9 (pc := 137) (z := n 2) (v := se) hC hK hP hD hS ⟨by omega, by omega⟩ dX5_lamp_137 (fun H locs hP hD hS => ?_)
            refine lv_aload_n (pc := 138) hx hb dX5_lamp_138 rfl (lv_at hl 1 rfl) ?_
            refine lv_dup (pc := 139) hx hb dX5_lamp_139 rfl ?_
            refine r_get (pc := 140) hC hK hP wM_o (hc := rfl) (fun w h => wt_1 w h) 6 (by decide) m_13_22 (fun _ h => h) (v := .int (iv (n 2))) rfl dX5_lamp_140 ?_
            refine lv_iconst (pc := 143) (v := iv 1) hx hb dX5_lamp_143 rfl ?_
            refine r_iadd (pc := 144) (a := n 2) (b := 1) hx hb dX5_lamp_144 ?_
            refine m_put2 (pc := 145) (v := (n 2) + 1) hC hK hP hD hS m_13_22 dX5_lamp_145 (fun H locs hP hD hS => ?_)
            have hG6 : (va_up (va_up (va_up (va_up (va_up G 4 (va_up (G 4) (n 2).toNat x)) 5 (va_up ((va_up G 4 (va_up (G 4) (n 2).toNat x)) 5) (n 2).toNat y)) 6 (va_up ((va_up (va_up G 4 (va_up (G 4) (n 2).toNat x)) 5 (va_up ((va_up G 4 (va_up (G 4) (n 2).toNat x)) 5) (n 2).toNat y)) 6) (n 2).toNat q)) 8 (va_up ((va_up (va_up (va_up G 4 (va_up (G 4) (n 2).toNat x)) 5 (va_up ((va_up G 4 (va_up (G 4) (n 2).toNat x)) 5) (n 2).toNat y)) 6 (va_up ((va_up (va_up G 4 (va_up (G 4) (n 2).toNat x)) 5 (va_up ((va_up G 4 (va_up (G 4) (n 2).toNat x)) 5) (n 2).toNat y)) 6) (n 2).toNat q)) 8) (n 2).toNat rc)) 9 (va_up ((va_up (va_up (va_up (va_up G 4 (va_up (G 4) (n 2).toNat x)) 5 (va_up ((va_up G 4 (va_up (G 4) (n 2).toNat x)) 5) (n 2).toNat y)) 6 (va_up ((va_up (va_up G 4 (va_up (G 4) (n 2).toNat x)) 5 (va_up ((va_up G 4 (va_up (G 4) (n 2).toNat x)) 5) (n 2).toNat y)) 6) (n 2).toNat q)) 8 (va_up ((va_up (va_up (va_up G 4 (va_up (G 4) (n 2).toNat x)) 5 (va_up ((va_up G 4 (va_up (G 4) (n 2).toNat x)) 5) (n 2).toNat y)) 6 (va_up ((va_up (va_up G 4 (va_up (G 4) (n 2).toNat x)) 5 (va_up ((va_up G 4 (va_up (G 4) (n 2).toNat x)) 5) (n 2).toNat y)) 6) (n 2).toNat q)) 8) (n 2).toNat rc)) 9) (n 2).toNat se)) 6 (n 2).toNat = q := va_up_self _ _ _
            refine lv_aload_n (pc := 148) hx hb dX5_lamp_148 rfl (lv_at hl 1 rfl) ?_
            refine lv_aload_n (pc := 149) hx hb dX5_lamp_149 rfl (lv_at hl 1 rfl) ?_
            refine r_get (pc := 150) hC hK hP wM_o (hc := rfl) (fun w h => wt_1 w h) 6 (by decide) m_13_22 (fun _ h => h) (v := .int (iv ((n 2) + 1))) rfl dX5_lamp_150 ?_
            refine lv_iconst (pc := 153) (v := iv 1) hx hb dX5_lamp_153 rfl ?_
            refine r_isub (pc := 154) (a := (n 2) + 1) (b := 1) hx hb dX5_lamp_154 ?_
            refine c_callV (pc := 155) (y := yX5_tells) (As := [.int (iv (((n 2) + 1) - 1))]) (rest := []) hC hE hP hD hS hl.1 (c_m_tells l ε m0 ad (va_up (va_up n 5 0) 2 ((n 2) + 1)) (va_up (va_up (va_up (va_up (va_up G 4 (va_up (G 4) (n 2).toNat x)) 5 (va_up ((va_up G 4 (va_up (G 4) (n 2).toNat x)) 5) (n 2).toNat y)) 6 (va_up ((va_up (va_up G 4 (va_up (G 4) (n 2).toNat x)) 5 (va_up ((va_up G 4 (va_up (G 4) (n 2).toNat x)) 5) (n 2).toNat y)) 6) (n 2).toNat q)) 8 (va_up ((va_up (va_up (va_up G 4 (va_up (G 4) (n 2).toNat x)) 5 (va_up ((va_up G 4 (va_up (G 4) (n 2).toNat x)) 5) (n 2).toNat y)) 6 (va_up ((va_up (va_up G 4 (va_up (G 4) (n 2).toNat x)) 5 (va_up ((va_up G 4 (va_up (G 4) (n 2).toNat x)) 5) (n 2).toNat y)) 6) (n 2).toNat q)) 8) (n 2).toNat rc)) 9 (va_up ((va_up (va_up (va_up (va_up G 4 (va_up (G 4) (n 2).toNat x)) 5 (va_up ((va_up G 4 (va_up (G 4) (n 2).toNat x)) 5) (n 2).toNat y)) 6 (va_up ((va_up (va_up G 4 (va_up (G 4) (n 2).toNat x)) 5 (va_up ((va_up G 4 (va_up (G 4) (n 2).toNat x)) 5) (n 2).toNat y)) 6) (n 2).toNat q)) 8 (va_up ((va_up (va_up (va_up G 4 (va_up (G 4) (n 2).toNat x)) 5 (va_up ((va_up G 4 (va_up (G 4) (n 2).toNat x)) 5) (n 2).toNat y)) 6 (va_up ((va_up (va_up G 4 (va_up (G 4) (n 2).toNat x)) 5 (va_up ((va_up G 4 (va_up (G 4) (n 2).toNat x)) 5) (n 2).toNat y)) 6) (n 2).toNat q)) 8) (n 2).toNat rc)) 9) (n 2).toNat se)) R (((n 2) + 1) - 1) ⟨by omega, by omega⟩ (Or.inl (by rw [show n 2 + 1 - 1 = n 2 by omega]; exact hz (by omega))) (by rw [show n 2 + 1 - 1 = n 2 by omega, hG6]; omega) h3) m_14_1 m_14_2 m_14_3 m_0_5 m_14_4 wM_o rfl hd_yX5_tells rfl ⟨⟨by decide, by decide⟩, by decide, by decide⟩ (Nat.le_of_ble_eq_true rfl) rfl dX5_lamp_155 kxN (fun v ws1 H locs hq hP hD hS => ?_)
            rw [hq.2] at hP hD
            rw [hq.1]
            dsimp only [Option.toList, List.cons_append, List.nil_append]
            refine lv_pop (pc := 158) hx hb dX5_lamp_158 rfl ?_
            refine lv_aload_n (pc := 159) hx hb dX5_lamp_159 rfl (lv_at hl 1 rfl) ?_
            refine r_get (pc := 160) hC hK hP wM_o (hc := rfl) (fun w h => wt_1 w h) 6 (by decide) m_13_22 (fun _ h => h) (v := .int (iv ((n 2) + 1))) rfl dX5_lamp_160 ?_
            refine lv_iconst (pc := 163) (v := iv 1) hx hb dX5_lamp_163 rfl ?_
            refine r_isub (pc := 164) (a := (n 2) + 1) (b := 1) hx hb dX5_lamp_164 ?_
            have hww : (wM ε m0 ad (va_up (va_up (va_up n 5 0) 2 ((n 2) + 1)) 3 (n 3 + 1)) (va_up (va_up (va_up (va_up (va_up (va_up G 4 (va_up (G 4) (n 2).toNat x)) 5 (va_up ((va_up G 4 (va_up (G 4) (n 2).toNat x)) 5) (n 2).toNat y)) 6 (va_up ((va_up (va_up G 4 (va_up (G 4) (n 2).toNat x)) 5 (va_up ((va_up G 4 (va_up (G 4) (n 2).toNat x)) 5) (n 2).toNat y)) 6) (n 2).toNat q)) 8 (va_up ((va_up (va_up (va_up G 4 (va_up (G 4) (n 2).toNat x)) 5 (va_up ((va_up G 4 (va_up (G 4) (n 2).toNat x)) 5) (n 2).toNat y)) 6 (va_up ((va_up (va_up G 4 (va_up (G 4) (n 2).toNat x)) 5 (va_up ((va_up G 4 (va_up (G 4) (n 2).toNat x)) 5) (n 2).toNat y)) 6) (n 2).toNat q)) 8) (n 2).toNat rc)) 9 (va_up ((va_up (va_up (va_up (va_up G 4 (va_up (G 4) (n 2).toNat x)) 5 (va_up ((va_up G 4 (va_up (G 4) (n 2).toNat x)) 5) (n 2).toNat y)) 6 (va_up ((va_up (va_up G 4 (va_up (G 4) (n 2).toNat x)) 5 (va_up ((va_up G 4 (va_up (G 4) (n 2).toNat x)) 5) (n 2).toNat y)) 6) (n 2).toNat q)) 8 (va_up ((va_up (va_up (va_up G 4 (va_up (G 4) (n 2).toNat x)) 5 (va_up ((va_up G 4 (va_up (G 4) (n 2).toNat x)) 5) (n 2).toNat y)) 6 (va_up ((va_up (va_up G 4 (va_up (G 4) (n 2).toNat x)) 5 (va_up ((va_up G 4 (va_up (G 4) (n 2).toNat x)) 5) (n 2).toNat y)) 6) (n 2).toNat q)) 8) (n 2).toNat rc)) 9) (n 2).toNat se)) 11 (va_up ((va_up (va_up (va_up (va_up (va_up G 4 (va_up (G 4) (n 2).toNat x)) 5 (va_up ((va_up G 4 (va_up (G 4) (n 2).toNat x)) 5) (n 2).toNat y)) 6 (va_up ((va_up (va_up G 4 (va_up (G 4) (n 2).toNat x)) 5 (va_up ((va_up G 4 (va_up (G 4) (n 2).toNat x)) 5) (n 2).toNat y)) 6) (n 2).toNat q)) 8 (va_up ((va_up (va_up (va_up G 4 (va_up (G 4) (n 2).toNat x)) 5 (va_up ((va_up G 4 (va_up (G 4) (n 2).toNat x)) 5) (n 2).toNat y)) 6 (va_up ((va_up (va_up G 4 (va_up (G 4) (n 2).toNat x)) 5 (va_up ((va_up G 4 (va_up (G 4) (n 2).toNat x)) 5) (n 2).toNat y)) 6) (n 2).toNat q)) 8) (n 2).toNat rc)) 9 (va_up ((va_up (va_up (va_up (va_up G 4 (va_up (G 4) (n 2).toNat x)) 5 (va_up ((va_up G 4 (va_up (G 4) (n 2).toNat x)) 5) (n 2).toNat y)) 6 (va_up ((va_up (va_up G 4 (va_up (G 4) (n 2).toNat x)) 5 (va_up ((va_up G 4 (va_up (G 4) (n 2).toNat x)) 5) (n 2).toNat y)) 6) (n 2).toNat q)) 8 (va_up ((va_up (va_up (va_up G 4 (va_up (G 4) (n 2).toNat x)) 5 (va_up ((va_up G 4 (va_up (G 4) (n 2).toNat x)) 5) (n 2).toNat y)) 6 (va_up ((va_up (va_up G 4 (va_up (G 4) (n 2).toNat x)) 5 (va_up ((va_up G 4 (va_up (G 4) (n 2).toNat x)) 5) (n 2).toNat y)) 6) (n 2).toNat q)) 8) (n 2).toNat rc)) 9) (n 2).toNat se)) 11) (n 3).toNat (NV (va_up (va_up (va_up (va_up (va_up G 4 (va_up (G 4) (n 2).toNat x)) 5 (va_up ((va_up G 4 (va_up (G 4) (n 2).toNat x)) 5) (n 2).toNat y)) 6 (va_up ((va_up (va_up G 4 (va_up (G 4) (n 2).toNat x)) 5 (va_up ((va_up G 4 (va_up (G 4) (n 2).toNat x)) 5) (n 2).toNat y)) 6) (n 2).toNat q)) 8 (va_up ((va_up (va_up (va_up G 4 (va_up (G 4) (n 2).toNat x)) 5 (va_up ((va_up G 4 (va_up (G 4) (n 2).toNat x)) 5) (n 2).toNat y)) 6 (va_up ((va_up (va_up G 4 (va_up (G 4) (n 2).toNat x)) 5 (va_up ((va_up G 4 (va_up (G 4) (n 2).toNat x)) 5) (n 2).toNat y)) 6) (n 2).toNat q)) 8) (n 2).toNat rc)) 9 (va_up ((va_up (va_up (va_up (va_up G 4 (va_up (G 4) (n 2).toNat x)) 5 (va_up ((va_up G 4 (va_up (G 4) (n 2).toNat x)) 5) (n 2).toNat y)) 6 (va_up ((va_up (va_up G 4 (va_up (G 4) (n 2).toNat x)) 5 (va_up ((va_up G 4 (va_up (G 4) (n 2).toNat x)) 5) (n 2).toNat y)) 6) (n 2).toNat q)) 8 (va_up ((va_up (va_up (va_up G 4 (va_up (G 4) (n 2).toNat x)) 5 (va_up ((va_up G 4 (va_up (G 4) (n 2).toNat x)) 5) (n 2).toNat y)) 6 (va_up ((va_up (va_up G 4 (va_up (G 4) (n 2).toNat x)) 5 (va_up ((va_up G 4 (va_up (G 4) (n 2).toNat x)) 5) (n 2).toNat y)) 6) (n 2).toNat q)) 8) (n 2).toNat rc)) 9) (n 2).toNat se)) (((n 2) + 1) - 1)))) ++ R) = wM ε m0 ad (va_up (va_up (va_up n 5 0) 2 (n 2 + 1)) 3 (n 3 + 1)) (va_up (va_up (va_up (va_up (va_up (va_up G 4 (va_up (G 4) ((n 2).toNat) x)) 5 (va_up ((va_up G 4 (va_up (G 4) ((n 2).toNat) x)) 5) ((n 2).toNat) y)) 6 (va_up ((va_up (va_up G 4 (va_up (G 4) ((n 2).toNat) x)) 5 (va_up ((va_up G 4 (va_up (G 4) ((n 2).toNat) x)) 5) ((n 2).toNat) y)) 6) ((n 2).toNat) q)) 8 (va_up ((va_up (va_up (va_up G 4 (va_up (G 4) ((n 2).toNat) x)) 5 (va_up ((va_up G 4 (va_up (G 4) ((n 2).toNat) x)) 5) ((n 2).toNat) y)) 6 (va_up ((va_up (va_up G 4 (va_up (G 4) ((n 2).toNat) x)) 5 (va_up ((va_up G 4 (va_up (G 4) ((n 2).toNat) x)) 5) ((n 2).toNat) y)) 6) ((n 2).toNat) q)) 8) ((n 2).toNat) rc)) 9 (va_up ((va_up (va_up (va_up (va_up G 4 (va_up (G 4) ((n 2).toNat) x)) 5 (va_up ((va_up G 4 (va_up (G 4) ((n 2).toNat) x)) 5) ((n 2).toNat) y)) 6 (va_up ((va_up (va_up G 4 (va_up (G 4) ((n 2).toNat) x)) 5 (va_up ((va_up G 4 (va_up (G 4) ((n 2).toNat) x)) 5) ((n 2).toNat) y)) 6) ((n 2).toNat) q)) 8 (va_up ((va_up (va_up (va_up G 4 (va_up (G 4) ((n 2).toNat) x)) 5 (va_up ((va_up G 4 (va_up (G 4) ((n 2).toNat) x)) 5) ((n 2).toNat) y)) 6 (va_up ((va_up (va_up G 4 (va_up (G 4) ((n 2).toNat) x)) 5 (va_up ((va_up G 4 (va_up (G 4) ((n 2).toNat) x)) 5) ((n 2).toNat) y)) 6) ((n 2).toNat) q)) 8) ((n 2).toNat) rc)) 9) ((n 2).toNat) se)) 11 (va_up ((va_up (va_up (va_up (va_up (va_up G 4 (va_up (G 4) ((n 2).toNat) x)) 5 (va_up ((va_up G 4 (va_up (G 4) ((n 2).toNat) x)) 5) ((n 2).toNat) y)) 6 (va_up ((va_up (va_up G 4 (va_up (G 4) ((n 2).toNat) x)) 5 (va_up ((va_up G 4 (va_up (G 4) ((n 2).toNat) x)) 5) ((n 2).toNat) y)) 6) ((n 2).toNat) q)) 8 (va_up ((va_up (va_up (va_up G 4 (va_up (G 4) ((n 2).toNat) x)) 5 (va_up ((va_up G 4 (va_up (G 4) ((n 2).toNat) x)) 5) ((n 2).toNat) y)) 6 (va_up ((va_up (va_up G 4 (va_up (G 4) ((n 2).toNat) x)) 5 (va_up ((va_up G 4 (va_up (G 4) ((n 2).toNat) x)) 5) ((n 2).toNat) y)) 6) ((n 2).toNat) q)) 8) ((n 2).toNat) rc)) 9 (va_up ((va_up (va_up (va_up (va_up G 4 (va_up (G 4) ((n 2).toNat) x)) 5 (va_up ((va_up G 4 (va_up (G 4) ((n 2).toNat) x)) 5) ((n 2).toNat) y)) 6 (va_up ((va_up (va_up G 4 (va_up (G 4) ((n 2).toNat) x)) 5 (va_up ((va_up G 4 (va_up (G 4) ((n 2).toNat) x)) 5) ((n 2).toNat) y)) 6) ((n 2).toNat) q)) 8 (va_up ((va_up (va_up (va_up G 4 (va_up (G 4) ((n 2).toNat) x)) 5 (va_up ((va_up G 4 (va_up (G 4) ((n 2).toNat) x)) 5) ((n 2).toNat) y)) 6 (va_up ((va_up (va_up G 4 (va_up (G 4) ((n 2).toNat) x)) 5 (va_up ((va_up G 4 (va_up (G 4) ((n 2).toNat) x)) 5) ((n 2).toNat) y)) 6) ((n 2).toNat) q)) 8) ((n 2).toNat) rc)) 9) ((n 2).toNat) se)) 11) ((n 3).toNat) (NV (va_up (va_up (va_up (va_up (va_up G 4 (va_up (G 4) ((n 2).toNat) x)) 5 (va_up ((va_up G 4 (va_up (G 4) ((n 2).toNat) x)) 5) ((n 2).toNat) y)) 6 (va_up ((va_up (va_up G 4 (va_up (G 4) ((n 2).toNat) x)) 5 (va_up ((va_up G 4 (va_up (G 4) ((n 2).toNat) x)) 5) ((n 2).toNat) y)) 6) ((n 2).toNat) q)) 8 (va_up ((va_up (va_up (va_up G 4 (va_up (G 4) ((n 2).toNat) x)) 5 (va_up ((va_up G 4 (va_up (G 4) ((n 2).toNat) x)) 5) ((n 2).toNat) y)) 6 (va_up ((va_up (va_up G 4 (va_up (G 4) ((n 2).toNat) x)) 5 (va_up ((va_up G 4 (va_up (G 4) ((n 2).toNat) x)) 5) ((n 2).toNat) y)) 6) ((n 2).toNat) q)) 8) ((n 2).toNat) rc)) 9 (va_up ((va_up (va_up (va_up (va_up G 4 (va_up (G 4) ((n 2).toNat) x)) 5 (va_up ((va_up G 4 (va_up (G 4) ((n 2).toNat) x)) 5) ((n 2).toNat) y)) 6 (va_up ((va_up (va_up G 4 (va_up (G 4) ((n 2).toNat) x)) 5 (va_up ((va_up G 4 (va_up (G 4) ((n 2).toNat) x)) 5) ((n 2).toNat) y)) 6) ((n 2).toNat) q)) 8 (va_up ((va_up (va_up (va_up G 4 (va_up (G 4) ((n 2).toNat) x)) 5 (va_up ((va_up G 4 (va_up (G 4) ((n 2).toNat) x)) 5) ((n 2).toNat) y)) 6 (va_up ((va_up (va_up G 4 (va_up (G 4) ((n 2).toNat) x)) 5 (va_up ((va_up G 4 (va_up (G 4) ((n 2).toNat) x)) 5) ((n 2).toNat) y)) 6) ((n 2).toNat) q)) 8) ((n 2).toNat) rc)) 9) ((n 2).toNat) se)) (n 2)))) ++ R := by rw [show n 2 + 1 - 1 = n 2 by omega]
            refine c_iret (pc := 165) hC hQ hP hD hS (by decide) (by decide) dX5_lamp_165 ?_
            exact Or.inr (Or.inr (Or.inr (⟨(by omega), congrArg (fun z => some (Value.int (iv z))) (by omega), hww⟩)))
          · exact absurd c_81 (by decide)
        · have c_66_ := c_66
          refine lv_iconst (pc := 69) (v := iv 3) hx hb dX5_lamp_69 rfl ?_
          refine lv_goto (pc := 70) (tgt := 74) hx hb dX5_lamp_70 (by decide) ?_
          refine m_put5 (pc := 74) (v := 3) hC hK hP hD hS m_3_4 dX5_lamp_74 (fun H locs hP hD hS => ?_)
          refine lv_aload_n (pc := 77) hx hb dX5_lamp_77 rfl (lv_at hl 1 rfl) ?_
          refine r_get (pc := 78) hC hK hP wM_o (hc := rfl) (fun w h => wt_1 w h) 19 (by decide) m_3_4 (fun _ h => h) (v := .int (iv 3)) rfl dX5_lamp_78 ?_
          refine r_if_le (pc := 81) (a := 3) hx hb dX5_lamp_81 (tgt := 86) (by decide) ⟨by omega, by omega⟩ (fun c_81 => ?_) (fun c_81 => ?_)
          · exact absurd c_81 (by decide)
          · have c_81_ := c_81
            refine lv_iconst (pc := 84) (v := iv 0) hx hb dX5_lamp_84 rfl ?_
            refine c_iret (pc := 85) hC hQ hP hD hS (by decide) (by decide) dX5_lamp_85 ?_
            exact Or.inr (Or.inr (Or.inl (⟨(by omega), rfl, rfl⟩)))
      · have c_53_ := c_53
        have hok1 := hok0 c_53
        refine lv_iconst (pc := 56) (v := iv 2) hx hb dX5_lamp_56 rfl ?_
        refine lv_goto (pc := 57) (tgt := 74) hx hb dX5_lamp_57 (by decide) ?_
        refine m_put5 (pc := 74) (v := 2) hC hK hP hD hS m_3_4 dX5_lamp_74 (fun H locs hP hD hS => ?_)
        refine lv_aload_n (pc := 77) hx hb dX5_lamp_77 rfl (lv_at hl 1 rfl) ?_
        refine r_get (pc := 78) hC hK hP wM_o (hc := rfl) (fun w h => wt_1 w h) 19 (by decide) m_3_4 (fun _ h => h) (v := .int (iv 2)) rfl dX5_lamp_78 ?_
        refine r_if_le (pc := 81) (a := 2) hx hb dX5_lamp_81 (tgt := 86) (by decide) ⟨by omega, by omega⟩ (fun c_81 => ?_) (fun c_81 => ?_)
        · exact absurd c_81 (by decide)
        · have c_81_ := c_81
          refine lv_iconst (pc := 84) (v := iv 0) hx hb dX5_lamp_84 rfl ?_
          refine c_iret (pc := 85) hC hQ hP hD hS (by decide) (by decide) dX5_lamp_85 ?_
          exact Or.inr (Or.inl (⟨(by omega), rfl, rfl⟩))
    · replace c_44 := of_decide_eq_false c_44
      refine lv_iconst (pc := 47) (v := iv 1) hx hb dX5_lamp_47 rfl ?_
      refine lv_goto (pc := 48) (tgt := 74) hx hb dX5_lamp_48 (by decide) ?_
      refine m_put5 (pc := 74) (v := 1) hC hK hP hD hS m_3_4 dX5_lamp_74 (fun H locs hP hD hS => ?_)
      refine lv_aload_n (pc := 77) hx hb dX5_lamp_77 rfl (lv_at hl 1 rfl) ?_
      refine r_get (pc := 78) hC hK hP wM_o (hc := rfl) (fun w h => wt_1 w h) 19 (by decide) m_3_4 (fun _ h => h) (v := .int (iv 1)) rfl dX5_lamp_78 ?_
      refine r_if_le (pc := 81) (a := 1) hx hb dX5_lamp_81 (tgt := 86) (by decide) ⟨by omega, by omega⟩ (fun c_81 => ?_) (fun c_81 => ?_)
      · exact absurd c_81 (by decide)
      · have c_81_ := c_81
        refine lv_iconst (pc := 84) (v := iv 0) hx hb dX5_lamp_84 rfl ?_
        refine c_iret (pc := 85) hC hQ hP hD hS (by decide) (by decide) dX5_lamp_85 ?_
        exact Or.inl (⟨(by omega), rfl, rfl⟩)
  refine lv_iload_n (pc := 0) hx hb dX5_lamp_0 rfl (lv_at hl 1 rfl) ?_
  refine lv_iload_n (pc := 1) hx hb dX5_lamp_1 rfl (lv_at hl 2 rfl) ?_
  refine c_callS (pc := 2) (y := yX5_isPlace) (As := [.int (iv x), .int (iv y)]) (rest := []) hC hE hP hD hS hl.1 (c_m_isPlace l ε (wM ε m0 ad n G ++ R) (x) (y) ⟨by omega, by omega⟩ ⟨by omega, by omega⟩) m_13_23 m_13_24 m_0_5 m_14_0 hd_yX5_isPlace rfl ⟨⟨by decide, by decide⟩, by decide, by decide⟩ (Nat.le_of_ble_eq_true rfl) rfl dX5_lamp_2 kxN (fun v ws1 H locs hq hP hD hS => ?_)
  rw [hq.2] at hP hD
  rw [hq.1]
  dsimp only [Option.toList, List.cons_append, List.nil_append]
  refine r_if_b0 (pc := 5) (b := decide ((0 ≤ x ∧ x ≤ 31) ∧ 0 ≤ y ∧ y ≤ 31)) hx hb dX5_lamp_5 (tgt := 35) (by decide)  (fun c_5 => ?_) (fun c_5 => ?_)
  · replace c_5 := of_decide_eq_false c_5
    refine lv_iconst (pc := 35) (v := iv 0) hx hb dX5_lamp_35 rfl ?_
    exact lp_36 false ⟨fun z => (by cases z), fun z => (by omega)⟩ _ _ _ hP hD hS (lv_sub hl [0, 1, 2, 3, 4, 5] rfl)
  · replace c_5 := of_decide_eq_true c_5
    refine lv_iload (pc := 8) hx hb dX5_lamp_8 (lv_at hl 4 rfl) ?_
    refine lv_iconst (pc := 10) (v := iv 1) hx hb dX5_lamp_10 rfl ?_
    refine lv_bipush (pc := 11) (v := iv 40) hx hb dX5_lamp_11 (by decide) ?_
    refine c_callS (pc := 13) (y := yX5_isIn) (As := [.int (iv rc), .int (iv 1), .int (iv 40)]) (rest := []) hC hE hP hD hS hl.1 (c_m_isIn l ε (wM ε m0 ad n G ++ R) (rc) (1) (40) ⟨by omega, by omega⟩ ⟨by omega, by omega⟩ ⟨by omega, by omega⟩) m_3_5 m_3_6 m_0_5 m_3_7 hd_yX5_isIn rfl ⟨⟨by decide, by decide⟩, by decide, by decide⟩ (Nat.le_of_ble_eq_true rfl) rfl dX5_lamp_13 kxN (fun v ws1 H locs hq hP hD hS => ?_)
    rw [hq.2] at hP hD
    rw [hq.1]
    dsimp only [Option.toList, List.cons_append, List.nil_append]
    refine r_if_b0 (pc := 16) (b := decide (1 ≤ rc ∧ rc ≤ 40)) hx hb dX5_lamp_16 (tgt := 35) (by decide)  (fun c_16 => ?_) (fun c_16 => ?_)
    · replace c_16 := of_decide_eq_false c_16
      refine lv_iconst (pc := 35) (v := iv 0) hx hb dX5_lamp_35 rfl ?_
      exact lp_36 false ⟨fun z => (by cases z), fun z => (by omega)⟩ _ _ _ hP hD hS (lv_sub hl [0, 1, 2, 3, 4, 5] rfl)
    · replace c_16 := of_decide_eq_true c_16
      refine lv_iload (pc := 19) hx hb dX5_lamp_19 (lv_at hl 5 rfl) ?_
      refine lv_iconst (pc := 21) (v := iv 1) hx hb dX5_lamp_21 rfl ?_
      refine lv_sipush (pc := 22) (v := iv 255) hx hb dX5_lamp_22 (by decide) ?_
      refine c_callS (pc := 25) (y := yX5_isIn) (As := [.int (iv se), .int (iv 1), .int (iv 255)]) (rest := []) hC hE hP hD hS hl.1 (c_m_isIn l ε (wM ε m0 ad n G ++ R) (se) (1) (255) ⟨by omega, by omega⟩ ⟨by omega, by omega⟩ ⟨by omega, by omega⟩) m_3_5 m_3_6 m_0_5 m_3_7 hd_yX5_isIn rfl ⟨⟨by decide, by decide⟩, by decide, by decide⟩ (Nat.le_of_ble_eq_true rfl) rfl dX5_lamp_25 kxN (fun v ws1 H locs hq hP hD hS => ?_)
      rw [hq.2] at hP hD
      rw [hq.1]
      dsimp only [Option.toList, List.cons_append, List.nil_append]
      refine r_if_b0 (pc := 28) (b := decide (1 ≤ se ∧ se ≤ 255)) hx hb dX5_lamp_28 (tgt := 35) (by decide)  (fun c_28 => ?_) (fun c_28 => ?_)
      · replace c_28 := of_decide_eq_false c_28
        refine lv_iconst (pc := 35) (v := iv 0) hx hb dX5_lamp_35 rfl ?_
        exact lp_36 false ⟨fun z => (by cases z), fun z => (by omega)⟩ _ _ _ hP hD hS (lv_sub hl [0, 1, 2, 3, 4, 5] rfl)
      · replace c_28 := of_decide_eq_true c_28
        refine lv_iconst (pc := 31) (v := iv 1) hx hb dX5_lamp_31 rfl ?_
        refine lv_goto (pc := 32) (tgt := 36) hx hb dX5_lamp_32 (by decide) ?_
        exact lp_36 true ⟨fun _ => (by omega), fun _ => rfl⟩ _ _ _ hP hD hS (lv_sub hl [0, 1, 2, 3, 4, 5] rfl)

abbrev rm_c_m_change : Room := { frames := 2, cells := 0, slots := 0, locals := 60 }
set_option maxRecDepth 100000 in
set_option maxHeartbeats 4000000 in
theorem c_m_change (l : Launch) (ε : EV) (m0 : Nat) (ad : Nat → Nat) (n : Nat → Int) (G : Nat → Nat → Int) (R : va_W) (i q bg : Int) (ri : rg i) (rq : rg q) (rb : rg bg) (hV1 : VPat n G) (hV : VLam n G) (h3 : 0 ≤ n 3 ∧ n 3 < 4200) : CT l yX5_change cX5_change 4 (some .int) rm_c_m_change ε [.ref m0, .int (iv i), .int (iv q), .int (iv bg)] (wM ε m0 ad n G ++ R) (fun v w => ((¬ ((0 ≤ i ∧ i < n 2) ∧ (0 ≤ q ∧ q < n 1))) ∧ v = some (.int (iv 0)) ∧ w = wM ε m0 ad (va_up n 5 1) G ++ R) ∨ ((((0 ≤ i ∧ i < n 2) ∧ (0 ≤ q ∧ q < n 1)) ∧ ¬ (0 ≤ bg ∧ bg ≤ 59)) ∧ v = some (.int (iv 0)) ∧ w = wM ε m0 ad (va_up n 5 2) G ++ R) ∨ ((((0 ≤ i ∧ i < n 2) ∧ (0 ≤ q ∧ q < n 1)) ∧ (0 ≤ bg ∧ bg ≤ 59)) ∧ v = some (.int (iv (n 3))) ∧ w = wM ε m0 ad (va_up (va_up n 5 0) 3 (n 3 + 1)) (va_up (va_up (va_up G 6 (va_up (G 6) i.toNat q)) 7 (va_up ((va_up G 6 (va_up (G 6) i.toNat q)) 7) i.toNat bg)) 11 (va_up ((va_up (va_up G 6 (va_up (G 6) i.toNat q)) 7 (va_up ((va_up G 6 (va_up (G 6) i.toNat q)) 7) i.toNat bg)) 11) ((n 3).toNat) (NV (va_up (va_up G 6 (va_up (G 6) i.toNat q)) 7 (va_up ((va_up G 6 (va_up (G 6) i.toNat q)) 7) i.toNat bg)) i))) ++ R)) NX := by
  refine CT.intro (by decide +kernel) (Nat.le_of_ble_eq_true rfl) ?_
  intro p9 e9 s9 m9 a9 bl9 me9 c9 ls Q9 hC hE hP hD hl hQ
  have hx := hC.1
  have hb := hC.2.1
  have hK := hE.K
  have hS : WS ε s9.heap s9.heap [] := va_S.rf
  have hl : lv_has ls 4 [(0, .ref m0), (1, .int (iv i)), (2, .int (iv q)), (3, .int (iv bg))] := hl
  obtain ⟨H, hH⟩ : ∃ H, H = s9.heap := ⟨_, rfl⟩
  obtain ⟨locs, hlo⟩ : ∃ z : List Loc, z = [] := ⟨_, rfl⟩
  rw [← hH] at hP ⊢
  have hS : WS ε s9.heap H locs := by rw [hH, hlo]; exact hS
  rw [← hlo]
  clear hH hlo
  have hn1 := hV1.1
  have hn2 := hV.1
  refine lv_aload_n (pc := 0) hx hb dX5_change_0 rfl (lv_at hl 0 rfl) ?_
  refine lv_aload_n (pc := 1) hx hb dX5_change_1 rfl (lv_at hl 0 rfl) ?_
  refine lv_iload_n (pc := 2) hx hb dX5_change_2 rfl (lv_at hl 1 rfl) ?_
  refine c_callV (pc := 3) (y := yX5_isLamp) (As := [.int (iv i)]) (rest := [.ref m0]) hC hE hP hD hS hl.1 (c_m_isLamp l ε m0 ad n G R (i) ⟨by omega, by omega⟩ ⟨by omega, by omega⟩) m_14_18 m_14_19 m_14_20 m_0_5 m_14_21 wM_o rfl hd_yX5_isLamp rfl ⟨⟨by decide, by decide⟩, by decide, by decide⟩ (Nat.le_of_ble_eq_true rfl) rfl dX5_change_3 kxN (fun v ws1 H locs hq hP hD hS => ?_)
  rw [hq.2] at hP hD
  rw [hq.1]
  dsimp only [Option.toList, List.cons_append, List.nil_append]
  refine r_if_b0 (pc := 6) (b := decide (0 ≤ i ∧ i < n 2)) hx hb dX5_change_6 (tgt := 17) (by decide)  (fun c_6 => ?_) (fun c_6 => ?_)
  · replace c_6 := of_decide_eq_false c_6
    refine lv_iconst (pc := 17) (v := iv 1) hx hb dX5_change_17 rfl ?_
    refine lv_goto (pc := 18) (tgt := 36) hx hb dX5_change_18 (by decide) ?_
    refine m_put5 (pc := 36) (v := 1) hC hK hP hD hS m_3_4 dX5_change_36 (fun H locs hP hD hS => ?_)
    refine lv_aload_n (pc := 39) hx hb dX5_change_39 rfl (lv_at hl 0 rfl) ?_
    refine r_get (pc := 40) hC hK hP wM_o (hc := rfl) (fun w h => wt_1 w h) 19 (by decide) m_3_4 (fun _ h => h) (v := .int (iv 1)) rfl dX5_change_40 ?_
    refine r_if_le (pc := 43) (a := 1) hx hb dX5_change_43 (tgt := 48) (by decide) ⟨by omega, by omega⟩ (fun c_43 => ?_) (fun c_43 => ?_)
    · exact absurd c_43 (by decide)
    · have c_43_ := c_43
      refine lv_iconst (pc := 46) (v := iv 0) hx hb dX5_change_46 rfl ?_
      refine c_iret (pc := 47) hC hQ hP hD hS (by decide) (by decide) dX5_change_47 ?_
      exact Or.inl (⟨(by omega), rfl, rfl⟩)
  · replace c_6 := of_decide_eq_true c_6
    refine lv_aload_n (pc := 9) hx hb dX5_change_9 rfl (lv_at hl 0 rfl) ?_
    refine lv_iload_n (pc := 10) hx hb dX5_change_10 rfl (lv_at hl 2 rfl) ?_
    refine c_callV (pc := 11) (y := yX5_isPattern) (As := [.int (iv q)]) (rest := [.ref m0]) hC hE hP hD hS hl.1 (c_m_isPattern l ε m0 ad n G R (q) ⟨by omega, by omega⟩ ⟨by omega, by omega⟩) m_8_22 m_8_23 m_8_24 m_0_5 m_9_0 wM_o rfl hd_yX5_isPattern rfl ⟨⟨by decide, by decide⟩, by decide, by decide⟩ (Nat.le_of_ble_eq_true rfl) rfl dX5_change_11 kxN (fun v ws1 H locs hq hP hD hS => ?_)
    rw [hq.2] at hP hD
    rw [hq.1]
    dsimp only [Option.toList, List.cons_append, List.nil_append]
    refine r_if_b1 (pc := 14) (b := decide (0 ≤ q ∧ q < n 1)) hx hb dX5_change_14 (tgt := 21) (by decide)  (fun c_14 => ?_) (fun c_14 => ?_)
    · replace c_14 := of_decide_eq_true c_14
      refine lv_iload_n (pc := 21) hx hb dX5_change_21 rfl (lv_at hl 3 rfl) ?_
      refine lv_iconst (pc := 22) (v := iv 0) hx hb dX5_change_22 rfl ?_
      refine lv_bipush (pc := 23) (v := iv 59) hx hb dX5_change_23 (by decide) ?_
      refine c_callS (pc := 25) (y := yX5_isIn) (As := [.int (iv bg), .int (iv 0), .int (iv 59)]) (rest := [.ref m0]) hC hE hP hD hS hl.1 (c_m_isIn l ε (wM ε m0 ad n G ++ R) (bg) (0) (59) ⟨by omega, by omega⟩ ⟨by omega, by omega⟩ ⟨by omega, by omega⟩) m_3_5 m_3_6 m_0_5 m_3_7 hd_yX5_isIn rfl ⟨⟨by decide, by decide⟩, by decide, by decide⟩ (Nat.le_of_ble_eq_true rfl) rfl dX5_change_25 kxN (fun v ws1 H locs hq hP hD hS => ?_)
      rw [hq.2] at hP hD
      rw [hq.1]
      dsimp only [Option.toList, List.cons_append, List.nil_append]
      refine r_if_b0 (pc := 28) (b := decide (0 ≤ bg ∧ bg ≤ 59)) hx hb dX5_change_28 (tgt := 35) (by decide)  (fun c_28 => ?_) (fun c_28 => ?_)
      · replace c_28 := of_decide_eq_false c_28
        refine lv_iconst (pc := 35) (v := iv 2) hx hb dX5_change_35 rfl ?_
        refine m_put5 (pc := 36) (v := 2) hC hK hP hD hS m_3_4 dX5_change_36 (fun H locs hP hD hS => ?_)
        refine lv_aload_n (pc := 39) hx hb dX5_change_39 rfl (lv_at hl 0 rfl) ?_
        refine r_get (pc := 40) hC hK hP wM_o (hc := rfl) (fun w h => wt_1 w h) 19 (by decide) m_3_4 (fun _ h => h) (v := .int (iv 2)) rfl dX5_change_40 ?_
        refine r_if_le (pc := 43) (a := 2) hx hb dX5_change_43 (tgt := 48) (by decide) ⟨by omega, by omega⟩ (fun c_43 => ?_) (fun c_43 => ?_)
        · exact absurd c_43 (by decide)
        · have c_43_ := c_43
          refine lv_iconst (pc := 46) (v := iv 0) hx hb dX5_change_46 rfl ?_
          refine c_iret (pc := 47) hC hQ hP hD hS (by decide) (by decide) dX5_change_47 ?_
          exact Or.inr (Or.inl (⟨(by omega), rfl, rfl⟩))
      · replace c_28 := of_decide_eq_true c_28
        refine lv_iconst (pc := 31) (v := iv 0) hx hb dX5_change_31 rfl ?_
        refine lv_goto (pc := 32) (tgt := 36) hx hb dX5_change_32 (by decide) ?_
        refine m_put5 (pc := 36) (v := 0) hC hK hP hD hS m_3_4 dX5_change_36 (fun H locs hP hD hS => ?_)
        refine lv_aload_n (pc := 39) hx hb dX5_change_39 rfl (lv_at hl 0 rfl) ?_
        refine r_get (pc := 40) hC hK hP wM_o (hc := rfl) (fun w h => wt_1 w h) 19 (by decide) m_3_4 (fun _ h => h) (v := .int (iv 0)) rfl dX5_change_40 ?_
        refine r_if_le (pc := 43) (a := 0) hx hb dX5_change_43 (tgt := 48) (by decide) ⟨by omega, by omega⟩ (fun c_43 => ?_) (fun c_43 => ?_)
        · have c_43_ := c_43
          refine lv_aload_n (pc := 48) hx hb dX5_change_48 rfl (lv_at hl 0 rfl) ?_
          refine r_get (pc := 49) hC hK hP wM_o (hc := rfl) (fun w h => wt_1 w h) 9 (by decide) m_1_23 (fun _ h => h) (v := .ref (ad 6)) rfl dX5_change_49 ?_
          refine lv_iload_n (pc := 52) hx hb dX5_change_52 rfl (lv_at hl 1 rfl) ?_
          refine lv_iload_n (pc := 53) hx hb dX5_change_53 rfl (lv_at hl 2 rfl) ?_
          refine m_ast6 (pc := 54) (z := i) (v := q) hC hK hP hD hS ⟨by omega, by omega⟩ dX5_change_54 (fun H locs hP hD hS => ?_)
          refine lv_aload_n (pc := 55) hx hb dX5_change_55 rfl (lv_at hl 0 rfl) ?_
          refine r_get (pc := 56) hC hK hP wM_o (hc := rfl) (fun w h => wt_1 w h) 10 (by decide) m_1_24 (fun _ h => h) (v := .ref (ad 7)) rfl dX5_change_56 ?_
          refine lv_iload_n (pc := 59) hx hb dX5_change_59 rfl (lv_at hl 1 rfl) ?_
          refine lv_iload_n (pc := 60) hx hb dX5_change_60 rfl (lv_at hl 3 rfl) ?_
          refine m_ast7 (pc := 61) (z := i) (v := bg) hC hK hP hD hS ⟨by omega, by omega⟩ dX5_change_61 (fun H locs hP hD hS => ?_)
          have hli := hV.i (q := i) (by omega) (by omega)
          have hG6 : (va_up (va_up G 6 (va_up (G 6) i.toNat q)) 7 (va_up ((va_up G 6 (va_up (G 6) i.toNat q)) 7) i.toNat bg)) 6 i.toNat = q := va_up_self _ _ _
          refine lv_aload_n (pc := 62) hx hb dX5_change_62 rfl (lv_at hl 0 rfl) ?_
          refine lv_iload_n (pc := 63) hx hb dX5_change_63 rfl (lv_at hl 1 rfl) ?_
          refine c_callV (pc := 64) (y := yX5_tells) (As := [.int (iv i)]) (rest := []) hC hE hP hD hS hl.1 (c_m_tells l ε m0 ad (va_up n 5 0) (va_up (va_up G 6 (va_up (G 6) i.toNat q)) 7 (va_up ((va_up G 6 (va_up (G 6) i.toNat q)) 7) i.toNat bg)) R i ⟨by omega, by omega⟩ hli.2.2.2.2.2.2 (by rw [hG6]; omega) h3) m_14_1 m_14_2 m_14_3 m_0_5 m_14_4 wM_o rfl hd_yX5_tells rfl ⟨⟨by decide, by decide⟩, by decide, by decide⟩ (Nat.le_of_ble_eq_true rfl) rfl dX5_change_64 kxN (fun v ws1 H locs hq hP hD hS => ?_)
          rw [hq.2] at hP hD
          rw [hq.1]
          dsimp only [Option.toList, List.cons_append, List.nil_append]
          refine c_iret (pc := 67) hC hQ hP hD hS (by decide) (by decide) dX5_change_67 ?_
          exact Or.inr (Or.inr (⟨(by omega), rfl, rfl⟩))
        · exact absurd c_43 (by decide)
    · replace c_14 := of_decide_eq_false c_14
      refine lv_iconst (pc := 17) (v := iv 1) hx hb dX5_change_17 rfl ?_
      refine lv_goto (pc := 18) (tgt := 36) hx hb dX5_change_18 (by decide) ?_
      refine m_put5 (pc := 36) (v := 1) hC hK hP hD hS m_3_4 dX5_change_36 (fun H locs hP hD hS => ?_)
      refine lv_aload_n (pc := 39) hx hb dX5_change_39 rfl (lv_at hl 0 rfl) ?_
      refine r_get (pc := 40) hC hK hP wM_o (hc := rfl) (fun w h => wt_1 w h) 19 (by decide) m_3_4 (fun _ h => h) (v := .int (iv 1)) rfl dX5_change_40 ?_
      refine r_if_le (pc := 43) (a := 1) hx hb dX5_change_43 (tgt := 48) (by decide) ⟨by omega, by omega⟩ (fun c_43 => ?_) (fun c_43 => ?_)
      · exact absurd c_43 (by decide)
      · have c_43_ := c_43
        refine lv_iconst (pc := 46) (v := iv 0) hx hb dX5_change_46 rfl ?_
        refine c_iret (pc := 47) hC hQ hP hD hS (by decide) (by decide) dX5_change_47 ?_
        exact Or.inl (⟨(by omega), rfl, rfl⟩)

abbrev rm_c_m_fail : Room := { frames := 2, cells := 0, slots := 0, locals := 60 }
set_option maxRecDepth 100000 in
set_option maxHeartbeats 4000000 in
theorem c_m_fail (l : Launch) (ε : EV) (m0 : Nat) (ad : Nat → Nat) (n : Nat → Int) (G : Nat → Nat → Int) (R : va_W) (i fb : Int) (ri : rg i) (hfb : fb = 0 ∨ fb = 1) (hV1 : VPat n G) (hV : VLam n G) (h3 : 0 ≤ n 3 ∧ n 3 < 4200) : CT l yX5_fail cX5_fail 3 (some .int) rm_c_m_fail ε [.ref m0, .int (iv i), .int (iv fb)] (wM ε m0 ad n G ++ R) (fun v w => ((¬ (0 ≤ i ∧ i < n 2)) ∧ v = some (.int (iv 0)) ∧ w = wM ε m0 ad (va_up n 5 1) G ++ R) ∨ (((0 ≤ i ∧ i < n 2) ∧ G 10 i.toNat = fb) ∧ v = some (.int (iv 0)) ∧ w = wM ε m0 ad (va_up n 5 2) G ++ R) ∨ (((0 ≤ i ∧ i < n 2) ∧ G 10 i.toNat ≠ fb) ∧ v = some (.int (iv (n 3))) ∧ w = wM ε m0 ad (va_up (va_up n 5 0) 3 (n 3 + 1)) (va_up (va_up G 10 (va_up (G 10) i.toNat fb)) 11 (va_up ((va_up G 10 (va_up (G 10) i.toNat fb)) 11) ((n 3).toNat) (NV (va_up G 10 (va_up (G 10) i.toNat fb)) i))) ++ R)) NX := by
  refine CT.intro (by decide +kernel) (Nat.le_of_ble_eq_true rfl) ?_
  intro p9 e9 s9 m9 a9 bl9 me9 c9 ls Q9 hC hE hP hD hl hQ
  have hx := hC.1
  have hb := hC.2.1
  have hK := hE.K
  have hS : WS ε s9.heap s9.heap [] := va_S.rf
  have hl : lv_has ls 3 [(0, .ref m0), (1, .int (iv i)), (2, .int (iv fb))] := hl
  obtain ⟨H, hH⟩ : ∃ H, H = s9.heap := ⟨_, rfl⟩
  obtain ⟨locs, hlo⟩ : ∃ z : List Loc, z = [] := ⟨_, rfl⟩
  rw [← hH] at hP ⊢
  have hS : WS ε s9.heap H locs := by rw [hH, hlo]; exact hS
  rw [← hlo]
  clear hH hlo
  have hn1 := hV1.1
  have hn2 := hV.1
  refine lv_aload_n (pc := 0) hx hb dX5_fail_0 rfl (lv_at hl 0 rfl) ?_
  refine lv_aload_n (pc := 1) hx hb dX5_fail_1 rfl (lv_at hl 0 rfl) ?_
  refine lv_iload_n (pc := 2) hx hb dX5_fail_2 rfl (lv_at hl 1 rfl) ?_
  refine c_callV (pc := 3) (y := yX5_isLamp) (As := [.int (iv i)]) (rest := [.ref m0]) hC hE hP hD hS hl.1 (c_m_isLamp l ε m0 ad n G R (i) ⟨by omega, by omega⟩ ⟨by omega, by omega⟩) m_14_18 m_14_19 m_14_20 m_0_5 m_14_21 wM_o rfl hd_yX5_isLamp rfl ⟨⟨by decide, by decide⟩, by decide, by decide⟩ (Nat.le_of_ble_eq_true rfl) rfl dX5_fail_3 kxN (fun v ws1 H locs hq hP hD hS => ?_)
  rw [hq.2] at hP hD
  rw [hq.1]
  dsimp only [Option.toList, List.cons_append, List.nil_append]
  refine r_if_b1 (pc := 6) (b := decide (0 ≤ i ∧ i < n 2)) hx hb dX5_fail_6 (tgt := 13) (by decide)  (fun c_6 => ?_) (fun c_6 => ?_)
  · replace c_6 := of_decide_eq_true c_6
    refine lv_aload_n (pc := 13) hx hb dX5_fail_13 rfl (lv_at hl 0 rfl) ?_
    refine r_get (pc := 14) hC hK hP wM_o (hc := rfl) (fun w h => wt_1 w h) 13 (by decide) m_2_3 (fun _ h => h) (v := .ref (ad 10)) rfl dX5_fail_14 ?_
    have hli := hV.i (q := i) (by omega) (by omega)
    have hl10 := hli.2.2.2.2.2.2
    refine lv_iload_n (pc := 17) hx hb dX5_fail_17 rfl (lv_at hl 1 rfl) ?_
    refine r_zald (pc := 18) (z := i) hC hK hP wM_10 ⟨by omega, by omega, by decide⟩ dX5_fail_18 ?_
    refine lv_iload_n (pc := 19) hx hb dX5_fail_19 rfl (lv_at hl 2 rfl) ?_
    refine r_icmp_ne (pc := 20) (a := G 10 i.toNat) (b := fb) hx hb dX5_fail_20 (tgt := 27) (by decide) ⟨by omega, by omega⟩ ⟨by omega, by omega⟩ (fun c_20 => ?_) (fun c_20 => ?_)
    · have c_20_ := c_20
      refine lv_iconst (pc := 27) (v := iv 0) hx hb dX5_fail_27 rfl ?_
      refine m_put5 (pc := 28) (v := 0) hC hK hP hD hS m_3_4 dX5_fail_28 (fun H locs hP hD hS => ?_)
      refine lv_aload_n (pc := 31) hx hb dX5_fail_31 rfl (lv_at hl 0 rfl) ?_
      refine r_get (pc := 32) hC hK hP wM_o (hc := rfl) (fun w h => wt_1 w h) 19 (by decide) m_3_4 (fun _ h => h) (v := .int (iv 0)) rfl dX5_fail_32 ?_
      refine r_if_le (pc := 35) (a := 0) hx hb dX5_fail_35 (tgt := 40) (by decide) ⟨by omega, by omega⟩ (fun c_35 => ?_) (fun c_35 => ?_)
      · have c_35_ := c_35
        refine lv_aload_n (pc := 40) hx hb dX5_fail_40 rfl (lv_at hl 0 rfl) ?_
        refine r_get (pc := 41) hC hK hP wM_o (hc := rfl) (fun w h => wt_1 w h) 13 (by decide) m_2_3 (fun _ h => h) (v := .ref (ad 10)) rfl dX5_fail_41 ?_
        refine lv_iload_n (pc := 44) hx hb dX5_fail_44 rfl (lv_at hl 1 rfl) ?_
        refine lv_iload_n (pc := 45) hx hb dX5_fail_45 rfl (lv_at hl 2 rfl) ?_
        refine m_ast10 (pc := 46) (z := i) (v := fb) hC hK hP hD hS ⟨by omega, by omega⟩ hfb dX5_fail_46 (fun H locs hP hD hS => ?_)
        have hG10 : (va_up G 10 (va_up (G 10) i.toNat fb)) 10 i.toNat = fb := va_up_self _ _ _
        have hG6 : (va_up G 10 (va_up (G 10) i.toNat fb)) 6 i.toNat = G 6 i.toNat := rfl
        refine lv_aload_n (pc := 47) hx hb dX5_fail_47 rfl (lv_at hl 0 rfl) ?_
        refine lv_iload_n (pc := 48) hx hb dX5_fail_48 rfl (lv_at hl 1 rfl) ?_
        refine c_callV (pc := 49) (y := yX5_tells) (As := [.int (iv i)]) (rest := []) hC hE hP hD hS hl.1 (c_m_tells l ε m0 ad (va_up n 5 0) (va_up G 10 (va_up (G 10) i.toNat fb)) R i ⟨by omega, by omega⟩ (by rw [hG10]; exact hfb) (by rw [hG6]; have z1 := hli.2.2.1; have z2 := hn1.2; exact ⟨z1.1, by omega⟩) h3) m_14_1 m_14_2 m_14_3 m_0_5 m_14_4 wM_o rfl hd_yX5_tells rfl ⟨⟨by decide, by decide⟩, by decide, by decide⟩ (Nat.le_of_ble_eq_true rfl) rfl dX5_fail_49 kxN (fun v ws1 H locs hq hP hD hS => ?_)
        rw [hq.2] at hP hD
        rw [hq.1]
        dsimp only [Option.toList, List.cons_append, List.nil_append]
        refine c_iret (pc := 52) hC hQ hP hD hS (by decide) (by decide) dX5_fail_52 ?_
        exact Or.inr (Or.inr (⟨⟨⟨by omega, by omega⟩, by omega⟩, rfl, rfl⟩))
      · exact absurd c_35 (by decide)
    · have c_20_ := c_20
      refine lv_iconst (pc := 23) (v := iv 2) hx hb dX5_fail_23 rfl ?_
      refine lv_goto (pc := 24) (tgt := 28) hx hb dX5_fail_24 (by decide) ?_
      refine m_put5 (pc := 28) (v := 2) hC hK hP hD hS m_3_4 dX5_fail_28 (fun H locs hP hD hS => ?_)
      refine lv_aload_n (pc := 31) hx hb dX5_fail_31 rfl (lv_at hl 0 rfl) ?_
      refine r_get (pc := 32) hC hK hP wM_o (hc := rfl) (fun w h => wt_1 w h) 19 (by decide) m_3_4 (fun _ h => h) (v := .int (iv 2)) rfl dX5_fail_32 ?_
      refine r_if_le (pc := 35) (a := 2) hx hb dX5_fail_35 (tgt := 40) (by decide) ⟨by omega, by omega⟩ (fun c_35 => ?_) (fun c_35 => ?_)
      · exact absurd c_35 (by decide)
      · have c_35_ := c_35
        refine lv_iconst (pc := 38) (v := iv 0) hx hb dX5_fail_38 rfl ?_
        refine c_iret (pc := 39) hC hQ hP hD hS (by decide) (by decide) dX5_fail_39 ?_
        exact Or.inr (Or.inl (⟨⟨⟨by omega, by omega⟩, by omega⟩, rfl, rfl⟩))
  · replace c_6 := of_decide_eq_false c_6
    refine lv_iconst (pc := 9) (v := iv 1) hx hb dX5_fail_9 rfl ?_
    refine lv_goto (pc := 10) (tgt := 28) hx hb dX5_fail_10 (by decide) ?_
    refine m_put5 (pc := 28) (v := 1) hC hK hP hD hS m_3_4 dX5_fail_28 (fun H locs hP hD hS => ?_)
    refine lv_aload_n (pc := 31) hx hb dX5_fail_31 rfl (lv_at hl 0 rfl) ?_
    refine r_get (pc := 32) hC hK hP wM_o (hc := rfl) (fun w h => wt_1 w h) 19 (by decide) m_3_4 (fun _ h => h) (v := .int (iv 1)) rfl dX5_fail_32 ?_
    refine r_if_le (pc := 35) (a := 1) hx hb dX5_fail_35 (tgt := 40) (by decide) ⟨by omega, by omega⟩ (fun c_35 => ?_) (fun c_35 => ?_)
    · exact absurd c_35 (by decide)
    · have c_35_ := c_35
      refine lv_iconst (pc := 38) (v := iv 0) hx hb dX5_fail_38 rfl ?_
      refine c_iret (pc := 39) hC hQ hP hD hS (by decide) (by decide) dX5_fail_39 ?_
      exact Or.inl (⟨(by omega), rfl, rfl⟩)

abbrev rm_c_m_puts : Room := { frames := 0, cells := 0, slots := 0, locals := 0 }
set_option maxRecDepth 100000 in
set_option maxHeartbeats 4000000 in
theorem c_m_puts (l : Launch) (ε : EV) (m0 : Nat) (ad : Nat → Nat) (n : Nat → Int) (G : Nat → Nat → Int) (R : va_W) (ch many : Int) (hc : 0 ≤ ch ∧ ch < 10) (hm : 0 ≤ many ∧ many ≤ 4200) (ht : 0 ≤ G 12 ch.toNat ∧ G 12 ch.toNat ≤ n 3) (hV : VLam n G) (hV1 : VPat n G) (h3 : VNot n G) : CT l yX5_puts cX5_puts 5 (some .int) rm_c_m_puts ε [.ref m0, .int (iv ch), .int (iv many)] (wM ε m0 ad n G ++ R) (fun v w => v = some (.int (iv (mn many (n 3 - G 12 ch.toNat)))) ∧ w = wM ε m0 ad n (PUT ch G (mn many (n 3 - G 12 ch.toNat)).toNat) ++ R) NX := by
  refine CT.intro (by decide +kernel) (Nat.le_of_ble_eq_true rfl) ?_
  intro p9 e9 s9 m9 a9 bl9 me9 c9 ls Q9 hC hE hP hD hl hQ
  have hx := hC.1
  have hb := hC.2.1
  have hK := hE.K
  have hS : WS ε s9.heap s9.heap [] := va_S.rf
  have hl : lv_has ls 5 [(0, .ref m0), (1, .int (iv ch)), (2, .int (iv many))] := hl
  obtain ⟨H, hH⟩ : ∃ H, H = s9.heap := ⟨_, rfl⟩
  obtain ⟨locs, hlo⟩ : ∃ z : List Loc, z = [] := ⟨_, rfl⟩
  rw [← hH] at hP ⊢
  have hS : WS ε s9.heap H locs := by rw [hH, hlo]; exact hS
  rw [← hlo]
  clear hH hlo
  have hn1 := hV1.1
  have hn2 := hV.1
  have hn3 := h3.1
  refine lv_iconst (pc := 0) (v := iv 0) hx hb dX5_puts_0 rfl ?_
  refine lv_istore_n (lv' := [(3, .int (iv 0)), (0, .ref m0), (1, .int (iv ch)), (2, .int (iv many))]) (pc := 1) hx hb dX5_puts_1 rfl hl (by decide) rfl (fun ls hl => ?_)
  have lp_2 : ∀ (k9 : Nat) (k : Int) (hk : 0 ≤ k ∧ k ≤ many ∧ k ≤ n 3 - G 12 ch.toNat) , ((many - k).toNat) < k9 → ∀ (H : Heap) (locs : List Loc) (ls : Array Slot), WP ε (wM ε m0 ad n (PUT ch G k.toNat) ++ R) H → WD ε (wM ε m0 ad n (PUT ch G k.toNat) ++ R) → WS ε s9.heap H locs → lv_has ls 5 [(0, .ref m0), (1, .int (iv ch)), (2, .int (iv many)), (3, .int (iv k))] → W p9 l e9 rm_c_m_puts s9 m9 a9 bl9 me9 c9 H locs 0 0 Q9 (F0 m9 2 ls []) := by
    intro k9
    induction k9 with
    | zero => intro k hk h9; exact absurd h9 (Nat.not_lt_zero _)
    | succ k9 ih_2 =>
      intro k hk h9 H locs ls hP hD hS hl
      have h12 := PUT.at12 ch G k.toNat
      have h11 := PUT.at11 ch G k.toNat
      refine lv_iload_n (pc := 2) hx hb dX5_puts_2 rfl (lv_at hl 3 rfl) ?_
      refine lv_iload_n (pc := 3) hx hb dX5_puts_3 rfl (lv_at hl 2 rfl) ?_
      refine r_icmp_ge (pc := 4) (a := k) (b := many) hx hb dX5_puts_4 (tgt := 83) (by decide) ⟨by omega, by omega⟩ ⟨by omega, by omega⟩ (fun c_4 => ?_) (fun c_4 => ?_)
      · have c_4_ := c_4
        have hres : k = mn many (n 3 - G 12 ch.toNat) := by unfold mn; split <;> omega
        rw [hres] at hP hD
        refine lv_iload_n (pc := 83) hx hb dX5_puts_83 rfl (lv_at hl 3 rfl) ?_
        refine c_iret (pc := 84) hC hQ hP hD hS (by decide) (by decide) dX5_puts_84 ?_
        exact ⟨congrArg (fun z => some (Value.int (iv z))) hres, rfl⟩
      · have c_4_ := c_4
        refine lv_aload_n (pc := 7) hx hb dX5_puts_7 rfl (lv_at hl 0 rfl) ?_
        refine r_get (pc := 8) hC hK hP wM_o (hc := rfl) (fun w h => wt_1 w h) 17 (by decide) m_2_5 (fun _ h => h) (v := .ref (ad 12)) rfl dX5_puts_8 ?_
        refine lv_iload_n (pc := 11) hx hb dX5_puts_11 rfl (lv_at hl 1 rfl) ?_
        refine r_iald (pc := 12) (z := ch) hC hK hP wM_12 ⟨by omega, by omega, by decide⟩ dX5_puts_12 ?_
        refine lv_aload_n (pc := 13) hx hb dX5_puts_13 rfl (lv_at hl 0 rfl) ?_
        refine r_get (pc := 14) hC hK hP wM_o (hc := rfl) (fun w h => wt_1 w h) 15 (by decide) m_14_5 (fun _ h => h) (v := .int (iv (n 3))) rfl dX5_puts_14 ?_
        refine r_icmp_ge (pc := 17) (a := PUT ch G k.toNat 12 ch.toNat) (b := n 3) hx hb dX5_puts_17 (tgt := 83) (by decide) ⟨by omega, by omega⟩ ⟨by omega, by omega⟩ (fun c_17 => ?_) (fun c_17 => ?_)
        · have c_17_ := c_17
          have hres : k = mn many (n 3 - G 12 ch.toNat) := by unfold mn; split <;> omega
          rw [hres] at hP hD
          refine lv_iload_n (pc := 83) hx hb dX5_puts_83 rfl (lv_at hl 3 rfl) ?_
          refine c_iret (pc := 84) hC hQ hP hD hS (by decide) (by decide) dX5_puts_84 ?_
          exact ⟨congrArg (fun z => some (Value.int (iv z))) hres, rfl⟩
        · have c_17_ := c_17
          refine lv_aload_n (pc := 20) hx hb dX5_puts_20 rfl (lv_at hl 0 rfl) ?_
          refine r_get (pc := 21) hC hK hP wM_o (hc := rfl) (fun w h => wt_1 w h) 14 (by decide) m_2_4 (fun _ h => h) (v := .ref (ad 11)) rfl dX5_puts_21 ?_
          refine lv_aload_n (pc := 24) hx hb dX5_puts_24 rfl (lv_at hl 0 rfl) ?_
          refine r_get (pc := 25) hC hK hP wM_o (hc := rfl) (fun w h => wt_1 w h) 17 (by decide) m_2_5 (fun _ h => h) (v := .ref (ad 12)) rfl dX5_puts_25 ?_
          refine lv_iload_n (pc := 28) hx hb dX5_puts_28 rfl (lv_at hl 1 rfl) ?_
          refine r_iald (pc := 29) (z := ch) hC hK hP wM_12 ⟨by omega, by omega, by decide⟩ dX5_puts_29 ?_
          have hx1 : 0 ≤ (PUT ch G k.toNat) 12 ch.toNat ∧ (PUT ch G k.toNat) 12 ch.toNat < n 3 := by omega
          have hno := h3.2 _ hx1.1 hx1.2
          have hno1 := hno.1
          have hno2 := hno.2
          rw [← h11] at hno1 hno2
          refine r_iald (pc := 30) (z := PUT ch G k.toNat 12 ch.toNat) hC hK hP wM_11 ⟨by omega, by omega, by decide⟩ dX5_puts_30 ?_
          refine lv_istore (lv' := [(4, .int (iv (PUT ch G k.toNat 11 (PUT ch G k.toNat 12 ch.toNat).toNat))), (0, .ref m0), (1, .int (iv ch)), (2, .int (iv many)), (3, .int (iv k))]) (pc := 31) hx hb dX5_puts_31 hl (by decide) rfl (fun ls hl => ?_)
          refine lv_aload_n (pc := 33) hx hb dX5_puts_33 rfl (lv_at hl 1 rfl) ?_
          refine r_get (pc := 34) hC hK hP wM_o (hc := rfl) (fun w h => wt_1 w h) 18 (by decide) m_2_6 (fun _ h => h) (v := .ref (ad 13)) rfl dX5_puts_34 ?_
          refine lv_bipush (pc := 37) (v := iv 12) hx hb dX5_puts_37 (by decide) ?_
          refine lv_iload_n (pc := 39) hx hb dX5_puts_39 rfl (lv_at hl 2 rfl) ?_
          refine r_imul (pc := 40) (a := 12) (b := ch) hx hb dX5_puts_40 ?_
          refine lv_iload (pc := 41) hx hb dX5_puts_41 (lv_at hl 0 rfl) ?_
          refine lv_bipush (pc := 43) (v := iv 32) hx hb dX5_puts_43 (by decide) ?_
          refine r_idiv (pc := 45) (a := PUT ch G k.toNat 11 (PUT ch G k.toNat 12 ch.toNat).toNat) (b := 32) hx hb dX5_puts_45 ⟨⟨by omega, by omega⟩, by omega, by omega⟩ ?_
          refine r_iadd (pc := 46) (a := 12 * ch) (b := (PUT ch G k.toNat 11 (PUT ch G k.toNat 12 ch.toNat).toNat) / 32) hx hb dX5_puts_46 ?_
          refine lv_iload (pc := 47) hx hb dX5_puts_47 (lv_at hl 0 rfl) ?_
          refine lv_bipush (pc := 49) (v := iv 32) hx hb dX5_puts_49 (by decide) ?_
          refine r_irem (pc := 51) (a := PUT ch G k.toNat 11 (PUT ch G k.toNat 12 ch.toNat).toNat) (b := 32) hx hb dX5_puts_51 ⟨⟨by omega, by omega⟩, by omega, by omega⟩ ?_
          have hm_51 := Int.emod_nonneg (PUT ch G k.toNat 11 (PUT ch G k.toNat 12 ch.toNat).toNat) (show 32 ≠ 0 by omega)
          have hn_51 := Int.emod_lt_of_pos (PUT ch G k.toNat 11 (PUT ch G k.toNat 12 ch.toNat).toNat) (show 0 < 32 by omega)
          refine lv_bipush (pc := 52) (v := iv 31) hx hb dX5_puts_52 (by decide) ?_
          refine r_icmp_ne (pc := 54) (a := (PUT ch G k.toNat 11 (PUT ch G k.toNat 12 ch.toNat).toNat) % 32) (b := 31) hx hb dX5_puts_54 (tgt := 61) (by decide) ⟨by omega, by omega⟩ ⟨by omega, by omega⟩ (fun c_54 => ?_) (fun c_54 => ?_)
          · have c_54_ := c_54
            refine lv_iload (pc := 61) hx hb dX5_puts_61 (lv_at hl 0 rfl) ?_
            refine lv_bipush (pc := 63) (v := iv 32) hx hb dX5_puts_63 (by decide) ?_
            refine r_irem (pc := 65) (a := PUT ch G k.toNat 11 (PUT ch G k.toNat 12 ch.toNat).toNat) (b := 32) hx hb dX5_puts_65 ⟨⟨by omega, by omega⟩, by omega, by omega⟩ ?_
            have hm_65 := Int.emod_nonneg (PUT ch G k.toNat 11 (PUT ch G k.toNat 12 ch.toNat).toNat) (show 32 ≠ 0 by omega)
            have hn_65 := Int.emod_lt_of_pos (PUT ch G k.toNat 11 (PUT ch G k.toNat 12 ch.toNat).toNat) (show 0 < 32 by omega)
            refine m_ast13 (pc := 66) (z := (12 * ch) + ((PUT ch G k.toNat 11 (PUT ch G k.toNat 12 ch.toNat).toNat) / 32)) (v := (PUT ch G k.toNat 11 (PUT ch G k.toNat 12 ch.toNat).toNat) % 32) hC hK hP hD hS ⟨by omega, by omega⟩ dX5_puts_66 (fun H locs hP hD hS => ?_)
            refine lv_aload_n (pc := 67) hx hb dX5_puts_67 rfl (lv_at hl 1 rfl) ?_
            refine r_get (pc := 68) hC hK hP wM_o (hc := rfl) (fun w h => wt_1 w h) 17 (by decide) m_2_5 (fun _ h => h) (v := .ref (ad 12)) rfl dX5_puts_68 ?_
            refine lv_iload_n (pc := 71) hx hb dX5_puts_71 rfl (lv_at hl 2 rfl) ?_
            refine lv_dup2_11 (pc := 72) hx hb dX5_puts_72 rfl rfl ?_
            refine r_iald (pc := 73) (z := ch) hC hK hP wM_12 ⟨by omega, by omega, by decide⟩ dX5_puts_73 ?_
            refine lv_iconst (pc := 74) (v := iv 1) hx hb dX5_puts_74 rfl ?_
            refine r_iadd (pc := 75) (a := PUT ch G k.toNat 12 ch.toNat) (b := 1) hx hb dX5_puts_75 ?_
            refine m_ast12 (pc := 76) (z := ch) (v := (PUT ch G k.toNat 12 ch.toNat) + 1) hC hK hP hD hS ⟨by omega, by omega⟩ dX5_puts_76 (fun H locs hP hD hS => ?_)
            refine lv_iinc (v := iv (k + 1)) (lv' := [(3, .int (iv (k + 1))), (4, .int (iv (PUT ch G k.toNat 11 (PUT ch G k.toNat 12 ch.toNat).toNat))), (0, .ref m0), (1, .int (iv ch)), (2, .int (iv many))]) (pc := 77) hx hb dX5_puts_77 hl (k := 4) rfl (iv_add _ _) (by decide) rfl (fun ls hl => ?_)
            refine lv_goto (pc := 80) (tgt := 2) hx hb dX5_puts_80 (by decide) ?_
            have hPU : va_up (va_up (PUT ch G k.toNat) 13 (va_up ((PUT ch G k.toNat) 13) ((12 * ch) + ((PUT ch G k.toNat 11 (PUT ch G k.toNat 12 ch.toNat).toNat) / 32)).toNat ((PUT ch G k.toNat 11 (PUT ch G k.toNat 12 ch.toNat).toNat) % 32))) 12 (va_up ((va_up (PUT ch G k.toNat) 13 (va_up ((PUT ch G k.toNat) 13) ((12 * ch) + ((PUT ch G k.toNat 11 (PUT ch G k.toNat 12 ch.toNat).toNat) / 32)).toNat ((PUT ch G k.toNat 11 (PUT ch G k.toNat 12 ch.toNat).toNat) % 32))) 12) ch.toNat ((PUT ch G k.toNat 12 ch.toNat) + 1)) = PUT ch G (k + 1).toNat := by rw [PUT.succ hk.1]; unfold putG; rw [if_neg c_54]; rfl
            rw [hPU] at hP hD
            exact ih_2 (k + 1) (by omega) (by omega) _ _ _ hP hD hS (lv_sub hl [2, 3, 4, 0] rfl)
          · have c_54_ := c_54
            refine lv_iconst (pc := 57) (v := iv (-1)) hx hb dX5_puts_57 rfl ?_
            refine lv_goto (pc := 58) (tgt := 66) hx hb dX5_puts_58 (by decide) ?_
            refine m_ast13 (pc := 66) (z := (12 * ch) + ((PUT ch G k.toNat 11 (PUT ch G k.toNat 12 ch.toNat).toNat) / 32)) (v := (-1)) hC hK hP hD hS ⟨by omega, by omega⟩ dX5_puts_66 (fun H locs hP hD hS => ?_)
            refine lv_aload_n (pc := 67) hx hb dX5_puts_67 rfl (lv_at hl 1 rfl) ?_
            refine r_get (pc := 68) hC hK hP wM_o (hc := rfl) (fun w h => wt_1 w h) 17 (by decide) m_2_5 (fun _ h => h) (v := .ref (ad 12)) rfl dX5_puts_68 ?_
            refine lv_iload_n (pc := 71) hx hb dX5_puts_71 rfl (lv_at hl 2 rfl) ?_
            refine lv_dup2_11 (pc := 72) hx hb dX5_puts_72 rfl rfl ?_
            refine r_iald (pc := 73) (z := ch) hC hK hP wM_12 ⟨by omega, by omega, by decide⟩ dX5_puts_73 ?_
            refine lv_iconst (pc := 74) (v := iv 1) hx hb dX5_puts_74 rfl ?_
            refine r_iadd (pc := 75) (a := PUT ch G k.toNat 12 ch.toNat) (b := 1) hx hb dX5_puts_75 ?_
            refine m_ast12 (pc := 76) (z := ch) (v := (PUT ch G k.toNat 12 ch.toNat) + 1) hC hK hP hD hS ⟨by omega, by omega⟩ dX5_puts_76 (fun H locs hP hD hS => ?_)
            refine lv_iinc (v := iv (k + 1)) (lv' := [(3, .int (iv (k + 1))), (4, .int (iv (PUT ch G k.toNat 11 (PUT ch G k.toNat 12 ch.toNat).toNat))), (0, .ref m0), (1, .int (iv ch)), (2, .int (iv many))]) (pc := 77) hx hb dX5_puts_77 hl (k := 4) rfl (iv_add _ _) (by decide) rfl (fun ls hl => ?_)
            refine lv_goto (pc := 80) (tgt := 2) hx hb dX5_puts_80 (by decide) ?_
            have hPU : va_up (va_up (PUT ch G k.toNat) 13 (va_up ((PUT ch G k.toNat) 13) ((12 * ch) + ((PUT ch G k.toNat 11 (PUT ch G k.toNat 12 ch.toNat).toNat) / 32)).toNat ((-1)))) 12 (va_up ((va_up (PUT ch G k.toNat) 13 (va_up ((PUT ch G k.toNat) 13) ((12 * ch) + ((PUT ch G k.toNat 11 (PUT ch G k.toNat 12 ch.toNat).toNat) / 32)).toNat ((-1)))) 12) ch.toNat ((PUT ch G k.toNat 12 ch.toNat) + 1)) = PUT ch G (k + 1).toNat := by rw [PUT.succ hk.1]; unfold putG; rw [if_pos c_54]; rfl
            rw [hPU] at hP hD
            exact ih_2 (k + 1) (by omega) (by omega) _ _ _ hP hD hS (lv_sub hl [2, 3, 4, 0] rfl)
  have h0 : G = PUT ch G (0 : Int).toNat := rfl
  exact lp_2 _ 0 (by omega) (Nat.lt_succ_self _) _ _ _ hP hD hS (lv_sub hl [1, 2, 3, 0] rfl)

abbrev rm_c_m_correct : Room := { frames := 2, cells := 0, slots := 0, locals := 60 }
set_option maxRecDepth 100000 in
set_option maxHeartbeats 4000000 in
theorem c_m_correct (l : Launch) (ε : EV) (m0 : Nat) (ad : Nat → Nat) (n : Nat → Int) (G : Nat → Nat → Int) (R : va_W) (ch many : Int) (rc : rg ch) (rm9 : rg many) (hV1 : VPat n G) (hV : VLam n G) (hV4 : VCha n G) (h3 : VNot n G) : CT l yX5_correct cX5_correct 3 (some .int) rm_c_m_correct ε [.ref m0, .int (iv ch), .int (iv many)] (wM ε m0 ad n G ++ R) (fun v w => ((¬ (0 ≤ ch ∧ ch < n 4)) ∧ v = some (.int (iv 0)) ∧ w = wM ε m0 ad (va_up n 5 1) G ++ R) ∨ (((0 ≤ ch ∧ ch < n 4) ∧ ¬ (1 ≤ many ∧ many ≤ 100)) ∧ v = some (.int (iv 0)) ∧ w = wM ε m0 ad (va_up n 5 2) G ++ R) ∨ (((0 ≤ ch ∧ ch < n 4) ∧ (1 ≤ many ∧ many ≤ 100)) ∧ v = some (.int (iv (mn many (n 3 - G 12 ch.toNat)))) ∧ w = wM ε m0 ad (va_up n 5 0) (PUT ch G (mn many (n 3 - G 12 ch.toNat)).toNat) ++ R)) NX := by
  refine CT.intro (by decide +kernel) (Nat.le_of_ble_eq_true rfl) ?_
  intro p9 e9 s9 m9 a9 bl9 me9 c9 ls Q9 hC hE hP hD hl hQ
  have hx := hC.1
  have hb := hC.2.1
  have hK := hE.K
  have hS : WS ε s9.heap s9.heap [] := va_S.rf
  have hl : lv_has ls 3 [(0, .ref m0), (1, .int (iv ch)), (2, .int (iv many))] := hl
  obtain ⟨H, hH⟩ : ∃ H, H = s9.heap := ⟨_, rfl⟩
  obtain ⟨locs, hlo⟩ : ∃ z : List Loc, z = [] := ⟨_, rfl⟩
  rw [← hH] at hP ⊢
  have hS : WS ε s9.heap H locs := by rw [hH, hlo]; exact hS
  rw [← hlo]
  clear hH hlo
  have hn1 := hV1.1
  have hn2 := hV.1
  have hn4 := hV4.1
  refine lv_aload_n (pc := 0) hx hb dX5_correct_0 rfl (lv_at hl 0 rfl) ?_
  refine lv_aload_n (pc := 1) hx hb dX5_correct_1 rfl (lv_at hl 0 rfl) ?_
  refine lv_iload_n (pc := 2) hx hb dX5_correct_2 rfl (lv_at hl 1 rfl) ?_
  refine c_callV (pc := 3) (y := yX5_isChart) (As := [.int (iv ch)]) (rest := [.ref m0]) hC hE hP hD hS hl.1 (c_m_isChart l ε m0 ad n G R (ch) ⟨by omega, by omega⟩ ⟨by omega, by omega⟩) m_22_3 m_22_4 m_22_5 m_0_5 m_22_6 wM_o rfl hd_yX5_isChart rfl ⟨⟨by decide, by decide⟩, by decide, by decide⟩ (Nat.le_of_ble_eq_true rfl) rfl dX5_correct_3 kxN (fun v ws1 H locs hq hP hD hS => ?_)
  rw [hq.2] at hP hD
  rw [hq.1]
  dsimp only [Option.toList, List.cons_append, List.nil_append]
  refine r_if_b1 (pc := 6) (b := decide (0 ≤ ch ∧ ch < n 4)) hx hb dX5_correct_6 (tgt := 13) (by decide)  (fun c_6 => ?_) (fun c_6 => ?_)
  · replace c_6 := of_decide_eq_true c_6
    refine lv_iload_n (pc := 13) hx hb dX5_correct_13 rfl (lv_at hl 2 rfl) ?_
    refine lv_iconst (pc := 14) (v := iv 1) hx hb dX5_correct_14 rfl ?_
    refine lv_bipush (pc := 15) (v := iv 100) hx hb dX5_correct_15 (by decide) ?_
    refine c_callS (pc := 17) (y := yX5_isIn) (As := [.int (iv many), .int (iv 1), .int (iv 100)]) (rest := [.ref m0]) hC hE hP hD hS hl.1 (c_m_isIn l ε (wM ε m0 ad n G ++ R) (many) (1) (100) ⟨by omega, by omega⟩ ⟨by omega, by omega⟩ ⟨by omega, by omega⟩) m_3_5 m_3_6 m_0_5 m_3_7 hd_yX5_isIn rfl ⟨⟨by decide, by decide⟩, by decide, by decide⟩ (Nat.le_of_ble_eq_true rfl) rfl dX5_correct_17 kxN (fun v ws1 H locs hq hP hD hS => ?_)
    rw [hq.2] at hP hD
    rw [hq.1]
    dsimp only [Option.toList, List.cons_append, List.nil_append]
    refine r_if_b0 (pc := 20) (b := decide (1 ≤ many ∧ many ≤ 100)) hx hb dX5_correct_20 (tgt := 27) (by decide)  (fun c_20 => ?_) (fun c_20 => ?_)
    · replace c_20 := of_decide_eq_false c_20
      refine lv_iconst (pc := 27) (v := iv 2) hx hb dX5_correct_27 rfl ?_
      refine m_put5 (pc := 28) (v := 2) hC hK hP hD hS m_3_4 dX5_correct_28 (fun H locs hP hD hS => ?_)
      refine lv_aload_n (pc := 31) hx hb dX5_correct_31 rfl (lv_at hl 0 rfl) ?_
      refine r_get (pc := 32) hC hK hP wM_o (hc := rfl) (fun w h => wt_1 w h) 19 (by decide) m_3_4 (fun _ h => h) (v := .int (iv 2)) rfl dX5_correct_32 ?_
      refine r_if_le (pc := 35) (a := 2) hx hb dX5_correct_35 (tgt := 42) (by decide) ⟨by omega, by omega⟩ (fun c_35 => ?_) (fun c_35 => ?_)
      · exact absurd c_35 (by decide)
      · have c_35_ := c_35
        refine lv_iconst (pc := 38) (v := iv 0) hx hb dX5_correct_38 rfl ?_
        refine lv_goto (pc := 39) (tgt := 48) hx hb dX5_correct_39 (by decide) ?_
        refine c_iret (pc := 48) hC hQ hP hD hS (by decide) (by decide) dX5_correct_48 ?_
        exact Or.inr (Or.inl (⟨(by omega), rfl, rfl⟩))
    · replace c_20 := of_decide_eq_true c_20
      refine lv_iconst (pc := 23) (v := iv 0) hx hb dX5_correct_23 rfl ?_
      refine lv_goto (pc := 24) (tgt := 28) hx hb dX5_correct_24 (by decide) ?_
      refine m_put5 (pc := 28) (v := 0) hC hK hP hD hS m_3_4 dX5_correct_28 (fun H locs hP hD hS => ?_)
      refine lv_aload_n (pc := 31) hx hb dX5_correct_31 rfl (lv_at hl 0 rfl) ?_
      refine r_get (pc := 32) hC hK hP wM_o (hc := rfl) (fun w h => wt_1 w h) 19 (by decide) m_3_4 (fun _ h => h) (v := .int (iv 0)) rfl dX5_correct_32 ?_
      refine r_if_le (pc := 35) (a := 0) hx hb dX5_correct_35 (tgt := 42) (by decide) ⟨by omega, by omega⟩ (fun c_35 => ?_) (fun c_35 => ?_)
      · have c_35_ := c_35
        have hct := (hV4.2 ch (by omega) (by omega)).1
        refine lv_aload_n (pc := 42) hx hb dX5_correct_42 rfl (lv_at hl 0 rfl) ?_
        refine lv_iload_n (pc := 43) hx hb dX5_correct_43 rfl (lv_at hl 1 rfl) ?_
        refine lv_iload_n (pc := 44) hx hb dX5_correct_44 rfl (lv_at hl 2 rfl) ?_
        refine c_callV (pc := 45) (y := yX5_puts) (As := [.int (iv ch), .int (iv many)]) (rest := []) hC hE hP hD hS hl.1 (c_m_puts l ε m0 ad (va_up n 5 0) G R ch many ⟨by omega, by omega⟩ ⟨by omega, by omega⟩ hct hV hV1 h3) m_21_4 m_21_5 m_21_6 m_0_5 m_21_7 wM_o rfl hd_yX5_puts rfl ⟨⟨by decide, by decide⟩, by decide, by decide⟩ (Nat.le_of_ble_eq_true rfl) rfl dX5_correct_45 kxN (fun v ws1 H locs hq hP hD hS => ?_)
        rw [hq.2] at hP hD
        rw [hq.1]
        dsimp only [Option.toList, List.cons_append, List.nil_append]
        refine c_iret (pc := 48) hC hQ hP hD hS (by decide) (by decide) dX5_correct_48 ?_
        exact Or.inr (Or.inr (⟨(by omega), rfl, rfl⟩))
      · exact absurd c_35 (by decide)
  · replace c_6 := of_decide_eq_false c_6
    refine lv_iconst (pc := 9) (v := iv 1) hx hb dX5_correct_9 rfl ?_
    refine lv_goto (pc := 10) (tgt := 28) hx hb dX5_correct_10 (by decide) ?_
    refine m_put5 (pc := 28) (v := 1) hC hK hP hD hS m_3_4 dX5_correct_28 (fun H locs hP hD hS => ?_)
    refine lv_aload_n (pc := 31) hx hb dX5_correct_31 rfl (lv_at hl 0 rfl) ?_
    refine r_get (pc := 32) hC hK hP wM_o (hc := rfl) (fun w h => wt_1 w h) 19 (by decide) m_3_4 (fun _ h => h) (v := .int (iv 1)) rfl dX5_correct_32 ?_
    refine r_if_le (pc := 35) (a := 1) hx hb dX5_correct_35 (tgt := 42) (by decide) ⟨by omega, by omega⟩ (fun c_35 => ?_) (fun c_35 => ?_)
    · exact absurd c_35 (by decide)
    · have c_35_ := c_35
      refine lv_iconst (pc := 38) (v := iv 0) hx hb dX5_correct_38 rfl ?_
      refine lv_goto (pc := 39) (tgt := 48) hx hb dX5_correct_39 (by decide) ?_
      refine c_iret (pc := 48) hC hQ hP hD hS (by decide) (by decide) dX5_correct_48 ?_
      exact Or.inl (⟨(by omega), rfl, rfl⟩)

abbrev rm_c_m_print : Room := { frames := 2, cells := 0, slots := 0, locals := 60 }
set_option maxRecDepth 100000 in
set_option maxHeartbeats 4000000 in
theorem c_m_print (l : Launch) (ε : EV) (m0 : Nat) (ad : Nat → Nat) (n : Nat → Int) (G : Nat → Nat → Int) (R : va_W) (hV1 : VPat n G) (hV : VLam n G) (hV4 : VCha n G) (h3 : VNot n G) (hz : n 4 < 10 → G 12 (n 4).toNat = 0) : CT l yX5_print cX5_print 2 (some .int) rm_c_m_print ε [.ref m0] (wM ε m0 ad n G ++ R) (fun v w => ((n 4 = 10) ∧ v = some (.int (iv 0)) ∧ w = wM ε m0 ad (va_up n 5 1) G ++ R) ∨ ((n 4 < 10) ∧ v = some (.int (iv (n 4))) ∧ w = wM ε m0 ad (va_up (va_up n 5 0) 4 (n 4 + 1)) (PUT (n 4) (SH G (n 4) 12) (mn (n 3) (n 3 - G 12 (n 4).toNat)).toNat) ++ R)) NX := by
  refine CT.intro (by decide +kernel) (Nat.le_of_ble_eq_true rfl) ?_
  intro p9 e9 s9 m9 a9 bl9 me9 c9 ls Q9 hC hE hP hD hl hQ
  have hx := hC.1
  have hb := hC.2.1
  have hK := hE.K
  have hS : WS ε s9.heap s9.heap [] := va_S.rf
  have hl : lv_has ls 2 [(0, .ref m0)] := hl
  obtain ⟨H, hH⟩ : ∃ H, H = s9.heap := ⟨_, rfl⟩
  obtain ⟨locs, hlo⟩ : ∃ z : List Loc, z = [] := ⟨_, rfl⟩
  rw [← hH] at hP ⊢
  have hS : WS ε s9.heap H locs := by rw [hH, hlo]; exact hS
  rw [← hlo]
  clear hH hlo
  have hn1 := hV1.1
  have hn2 := hV.1
  have hn4 := hV4.1
  have hn3 := h3.1
  refine lv_aload_n (pc := 0) hx hb dX5_print_0 rfl (lv_at hl 0 rfl) ?_
  refine lv_aload_n (pc := 1) hx hb dX5_print_1 rfl (lv_at hl 0 rfl) ?_
  refine r_get (pc := 2) hC hK hP wM_o (hc := rfl) (fun w h => wt_1 w h) 16 (by decide) m_21_3 (fun _ h => h) (v := .int (iv (n 4))) rfl dX5_print_2 ?_
  refine lv_bipush (pc := 5) (v := iv 10) hx hb dX5_print_5 (by decide) ?_
  refine r_icmp_ne (pc := 7) (a := n 4) (b := 10) hx hb dX5_print_7 (tgt := 14) (by decide) ⟨by omega, by omega⟩ ⟨by omega, by omega⟩ (fun c_7 => ?_) (fun c_7 => ?_)
  · have c_7_ := c_7
    refine lv_iconst (pc := 14) (v := iv 0) hx hb dX5_print_14 rfl ?_
    refine m_put5 (pc := 15) (v := 0) hC hK hP hD hS m_3_4 dX5_print_15 (fun H locs hP hD hS => ?_)
    refine lv_aload_n (pc := 18) hx hb dX5_print_18 rfl (lv_at hl 0 rfl) ?_
    refine r_get (pc := 19) hC hK hP wM_o (hc := rfl) (fun w h => wt_1 w h) 19 (by decide) m_3_4 (fun _ h => h) (v := .int (iv 0)) rfl dX5_print_19 ?_
    refine r_if_le (pc := 22) (a := 0) hx hb dX5_print_22 (tgt := 27) (by decide) ⟨by omega, by omega⟩ (fun c_22 => ?_) (fun c_22 => ?_)
    · have c_22_ := c_22
      refine lv_iconst (pc := 27) (v := iv 0) hx hb dX5_print_27 rfl ?_
      refine lv_istore_n (lv' := [(1, .int (iv 0)), (0, .ref m0)]) (pc := 28) hx hb dX5_print_28 rfl hl (by decide) rfl (fun ls hl => ?_)
      have lp_29 : ∀ (k9 : Nat) (k : Int) (hk : 0 ≤ k ∧ k ≤ 12) , ((12 - k).toNat) < k9 → ∀ (H : Heap) (locs : List Loc) (ls : Array Slot), WP ε (wM ε m0 ad (va_up n 5 0) (SH G (n 4) k) ++ R) H → WD ε (wM ε m0 ad (va_up n 5 0) (SH G (n 4) k) ++ R) → WS ε s9.heap H locs → lv_has ls 2 [(0, .ref m0), (1, .int (iv k))] → W p9 l e9 rm_c_m_print s9 m9 a9 bl9 me9 c9 H locs 0 0 Q9 (F0 m9 29 ls []) := by
        intro k9
        induction k9 with
        | zero => intro k hk h9; exact absurd h9 (Nat.not_lt_zero _)
        | succ k9 ih_29 =>
          intro k hk h9 H locs ls hP hD hS hl
          refine lv_iload_n (pc := 29) hx hb dX5_print_29 rfl (lv_at hl 1 rfl) ?_
          refine lv_bipush (pc := 30) (v := iv 12) hx hb dX5_print_30 (by decide) ?_
          refine r_icmp_ge (pc := 32) (a := k) (b := 12) hx hb dX5_print_32 (tgt := 56) (by decide) ⟨by omega, by omega⟩ ⟨by omega, by omega⟩ (fun c_32 => ?_) (fun c_32 => ?_)
          · have c_32_ := c_32
            rw [show k = 12 by omega] at hP hD
            refine lv_aload_n (pc := 56) hx hb dX5_print_56 rfl (lv_at hl 0 rfl) ?_
            refine lv_aload_n (pc := 57) hx hb dX5_print_57 rfl (lv_at hl 0 rfl) ?_
            refine r_get (pc := 58) hC hK hP wM_o (hc := rfl) (fun w h => wt_1 w h) 16 (by decide) m_21_3 (fun _ h => h) (v := .int (iv (n 4))) rfl dX5_print_58 ?_
            refine lv_aload_n (pc := 61) hx hb dX5_print_61 rfl (lv_at hl 0 rfl) ?_
            refine r_get (pc := 62) hC hK hP wM_o (hc := rfl) (fun w h => wt_1 w h) 15 (by decide) m_14_5 (fun _ h => h) (v := .int (iv (n 3))) rfl dX5_print_62 ?_
            refine c_callV (pc := 65) (y := yX5_puts) (As := [.int (iv (n 4)), .int (iv (n 3))]) (rest := []) hC hE hP hD hS hl.1 (c_m_puts l ε m0 ad (va_up n 5 0) (SH G (n 4) 12) R (n 4) (n 3) ⟨by omega, by omega⟩ ⟨by omega, by omega⟩ (by show 0 ≤ G 12 (n 4).toNat ∧ G 12 (n 4).toNat ≤ n 3; rw [hz (by omega)]; omega) hV hV1 h3) m_21_4 m_21_5 m_21_6 m_0_5 m_21_7 wM_o rfl hd_yX5_puts rfl ⟨⟨by decide, by decide⟩, by decide, by decide⟩ (Nat.le_of_ble_eq_true rfl) rfl dX5_print_65 kxN (fun v ws1 H locs hq hP hD hS => ?_)
            rw [hq.2] at hP hD
            rw [hq.1]
            dsimp only [Option.toList, List.cons_append, List.nil_append]
            refine lv_pop (pc := 68) hx hb dX5_print_68 rfl ?_
            refine lv_aload_n (pc := 69) hx hb dX5_print_69 rfl (lv_at hl 0 rfl) ?_
            refine lv_dup (pc := 70) hx hb dX5_print_70 rfl ?_
            refine r_get (pc := 71) hC hK hP wM_o (hc := rfl) (fun w h => wt_1 w h) 16 (by decide) m_21_3 (fun _ h => h) (v := .int (iv (n 4))) rfl dX5_print_71 ?_
            refine lv_iconst (pc := 74) (v := iv 1) hx hb dX5_print_74 rfl ?_
            refine r_iadd (pc := 75) (a := n 4) (b := 1) hx hb dX5_print_75 ?_
            refine m_put4 (pc := 76) (v := (n 4) + 1) hC hK hP hD hS m_21_3 dX5_print_76 (fun H locs hP hD hS => ?_)
            refine lv_aload_n (pc := 79) hx hb dX5_print_79 rfl (lv_at hl 0 rfl) ?_
            refine r_get (pc := 80) hC hK hP wM_o (hc := rfl) (fun w h => wt_1 w h) 16 (by decide) m_21_3 (fun _ h => h) (v := .int (iv ((n 4) + 1))) rfl dX5_print_80 ?_
            refine lv_iconst (pc := 83) (v := iv 1) hx hb dX5_print_83 rfl ?_
            refine r_isub (pc := 84) (a := (n 4) + 1) (b := 1) hx hb dX5_print_84 ?_
            refine c_iret (pc := 85) hC hQ hP hD hS (by decide) (by decide) dX5_print_85 ?_
            exact Or.inr (⟨(by omega), congrArg (fun z => some (Value.int (iv z))) (by omega), rfl⟩)
          · have c_32_ := c_32
            refine lv_aload_n (pc := 35) hx hb dX5_print_35 rfl (lv_at hl 0 rfl) ?_
            refine r_get (pc := 36) hC hK hP wM_o (hc := rfl) (fun w h => wt_1 w h) 18 (by decide) m_2_6 (fun _ h => h) (v := .ref (ad 13)) rfl dX5_print_36 ?_
            refine lv_bipush (pc := 39) (v := iv 12) hx hb dX5_print_39 (by decide) ?_
            refine lv_aload_n (pc := 41) hx hb dX5_print_41 rfl (lv_at hl 0 rfl) ?_
            refine r_get (pc := 42) hC hK hP wM_o (hc := rfl) (fun w h => wt_1 w h) 16 (by decide) m_21_3 (fun _ h => h) (v := .int (iv (n 4))) rfl dX5_print_42 ?_
            refine r_imul (pc := 45) (a := 12) (b := n 4) hx hb dX5_print_45 ?_
            refine lv_iload_n (pc := 46) hx hb dX5_print_46 rfl (lv_at hl 1 rfl) ?_
            refine r_iadd (pc := 47) (a := 12 * (n 4)) (b := k) hx hb dX5_print_47 ?_
            refine lv_iconst (pc := 48) (v := iv (-1)) hx hb dX5_print_48 rfl ?_
            refine m_ast13 (pc := 49) (z := (12 * (n 4)) + k) (v := (-1)) hC hK hP hD hS ⟨by omega, by omega⟩ dX5_print_49 (fun H locs hP hD hS => ?_)
            refine lv_iinc (v := iv (k + 1)) (lv' := [(1, .int (iv (k + 1))), (0, .ref m0)]) (pc := 50) hx hb dX5_print_50 hl (k := 1) rfl (iv_add _ _) (by decide) rfl (fun ls hl => ?_)
            refine lv_goto (pc := 53) (tgt := 29) hx hb dX5_print_53 (by decide) ?_
            have hSH : va_up (SH G (n 4) k) 13 (va_up ((SH G (n 4) k) 13) ((12 * (n 4)) + k).toNat ((-1))) = SH G (n 4) (k + 1) := SH.step (by omega) (by omega)
            rw [hSH] at hP hD
            exact ih_29 (k + 1) (by omega) (by omega) _ _ _ hP hD hS (lv_sub hl [1, 0] rfl)
      rw [← SH.zero G (n 4)] at hP hD
      exact lp_29 _ 0 (by omega) (Nat.lt_succ_self _) _ _ _ hP hD hS (lv_sub hl [1, 0] rfl)
    · exact absurd c_22 (by decide)
  · have c_7_ := c_7
    refine lv_iconst (pc := 10) (v := iv 1) hx hb dX5_print_10 rfl ?_
    refine lv_goto (pc := 11) (tgt := 15) hx hb dX5_print_11 (by decide) ?_
    refine m_put5 (pc := 15) (v := 1) hC hK hP hD hS m_3_4 dX5_print_15 (fun H locs hP hD hS => ?_)
    refine lv_aload_n (pc := 18) hx hb dX5_print_18 rfl (lv_at hl 0 rfl) ?_
    refine r_get (pc := 19) hC hK hP wM_o (hc := rfl) (fun w h => wt_1 w h) 19 (by decide) m_3_4 (fun _ h => h) (v := .int (iv 1)) rfl dX5_print_19 ?_
    refine r_if_le (pc := 22) (a := 1) hx hb dX5_print_22 (tgt := 27) (by decide) ⟨by omega, by omega⟩ (fun c_22 => ?_) (fun c_22 => ?_)
    · exact absurd c_22 (by decide)
    · have c_22_ := c_22
      refine lv_iconst (pc := 25) (v := iv 0) hx hb dX5_print_25 rfl ?_
      refine c_iret (pc := 26) hC hQ hP hD hS (by decide) (by decide) dX5_print_26 ?_
      exact Or.inl (⟨(by omega), rfl, rfl⟩)
