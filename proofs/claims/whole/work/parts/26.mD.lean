abbrev rm_c_m_isOn : Room := { frames := 1, cells := 0, slots := 0, locals := 40 }
set_option maxRecDepth 100000 in
set_option maxHeartbeats 4000000 in
theorem c_m_isOn (l : Launch) (ε : EV) (m0 : Nat) (ad : Nat → Nat) (n : Nat → Int) (G : Nat → Nat → Int) (R : va_W) (i t : Int) (hi : 0 ≤ i ∧ i < 12) (hv : LV n G i) (hq : PQ G (G 6 i.toNat)) (hn1 : n 1 ≤ 20) (ht : 0 ≤ t ∧ t < 900000) : CT l yX5_isOn cX5_isOn 3 (some .boolean) rm_c_m_isOn ε [.ref m0, .int (iv i), .int (iv t)] (wM ε m0 ad n G ++ R) (fun v w => v = some (.int (iv (bz (ON G i t)))) ∧ w = wM ε m0 ad n G ++ R) NX := by
  refine CT.intro (by decide +kernel) (Nat.le_of_ble_eq_true rfl) ?_
  intro p9 e9 s9 m9 a9 bl9 me9 c9 ls Q9 hC hE hP hD hl hQ
  have hx := hC.1
  have hb := hC.2.1
  have hK := hE.K
  have hS : WS ε s9.heap s9.heap [] := va_S.rf
  have hl : lv_has ls 3 [(0, .ref m0), (1, .int (iv i)), (2, .int (iv t))] := hl
  obtain ⟨H, hH⟩ : ∃ H, H = s9.heap := ⟨_, rfl⟩
  obtain ⟨locs, hlo⟩ : ∃ z : List Loc, z = [] := ⟨_, rfl⟩
  rw [← hH] at hP ⊢
  have hS : WS ε s9.heap H locs := by rw [hH, hlo]; exact hS
  rw [← hlo]
  clear hH hlo
  obtain ⟨⟨h41, h42⟩, ⟨h51, h52⟩, ⟨h61, h62⟩, ⟨h71, h72⟩, ⟨h81, h82⟩, ⟨h91, h92⟩, h10⟩ := hv
  refine lv_aload_n (pc := 0) hx hb dX5_isOn_0 rfl (lv_at hl 0 rfl) ?_
  refine r_get (pc := 1) hC hK hP wM_o (hc := rfl) (fun w h => wt_1 w h) 13 (by decide) m_2_3 (fun _ h => h) (v := .ref (ad 10)) rfl dX5_isOn_1 ?_
  refine lv_iload_n (pc := 4) hx hb dX5_isOn_4 rfl (lv_at hl 1 rfl) ?_
  refine r_zald (pc := 5) (z := i) hC hK hP wM_10 ⟨by omega, by omega, by decide⟩ dX5_isOn_5 ?_
  refine r_if_ne (pc := 6) (a := G 10 i.toNat) hx hb dX5_isOn_6 (tgt := 34) (by decide) ⟨by omega, by omega⟩ (fun c_6 => ?_) (fun c_6 => ?_)
  · have c_6_ := c_6
    refine lv_iconst (pc := 34) (v := iv 0) hx hb dX5_isOn_34 rfl ?_
    refine c_zret (pc := 35) hC hQ hP hD hS (by decide) (by decide) dX5_isOn_35 nz_0 ?_
    exact ⟨congrArg (fun z => some (Value.int z)) (bz_0 (by unfold ON; rw [decide_eq_false (by omega)]; rfl)), rfl⟩
  · have c_6_ := c_6
    refine lv_aload_n (pc := 9) hx hb dX5_isOn_9 rfl (lv_at hl 0 rfl) ?_
    refine lv_aload_n (pc := 10) hx hb dX5_isOn_10 rfl (lv_at hl 0 rfl) ?_
    refine r_get (pc := 11) hC hK hP wM_o (hc := rfl) (fun w h => wt_1 w h) 9 (by decide) m_1_23 (fun _ h => h) (v := .ref (ad 6)) rfl dX5_isOn_11 ?_
    refine lv_iload_n (pc := 14) hx hb dX5_isOn_14 rfl (lv_at hl 1 rfl) ?_
    refine r_iald (pc := 15) (z := i) hC hK hP wM_6 ⟨by omega, by omega, by decide⟩ dX5_isOn_15 ?_
    refine lv_iload_n (pc := 16) hx hb dX5_isOn_16 rfl (lv_at hl 2 rfl) ?_
    refine lv_aload_n (pc := 17) hx hb dX5_isOn_17 rfl (lv_at hl 0 rfl) ?_
    refine r_get (pc := 18) hC hK hP wM_o (hc := rfl) (fun w h => wt_1 w h) 10 (by decide) m_1_24 (fun _ h => h) (v := .ref (ad 7)) rfl dX5_isOn_18 ?_
    refine lv_iload_n (pc := 21) hx hb dX5_isOn_21 rfl (lv_at hl 1 rfl) ?_
    refine r_iald (pc := 22) (z := i) hC hK hP wM_7 ⟨by omega, by omega, by decide⟩ dX5_isOn_22 ?_
    refine r_iadd (pc := 23) (a := t) (b := G 7 i.toNat) hx hb dX5_isOn_23 ?_
    refine c_callV (pc := 24) (y := yX5_isLight) (As := [.int (iv (G 6 i.toNat)), .int (iv (t + (G 7 i.toNat)))]) (rest := []) hC hE hP hD hS hl.1 (c_m_isLight l ε m0 ad n G R (G 6 i.toNat) (t + (G 7 i.toNat)) ⟨by omega, by omega⟩ hq ⟨by omega, by omega⟩) m_10_7 m_10_8 m_10_9 m_0_5 m_10_10 wM_o rfl hd_yX5_isLight rfl ⟨⟨by decide, by decide⟩, by decide, by decide⟩ (Nat.le_of_ble_eq_true rfl) rfl dX5_isOn_24 kxN (fun v ws1 H locs hq hP hD hS => ?_)
    rw [hq.2] at hP hD
    rw [hq.1]
    dsimp only [Option.toList, List.cons_append, List.nil_append]
    refine r_if_b0 (pc := 27) (b := LQ G (G 6 i.toNat) (t + (G 7 i.toNat))) hx hb dX5_isOn_27 (tgt := 34) (by decide)  (fun c_27 => ?_) (fun c_27 => ?_)
    · have c_27_ := c_27
      refine lv_iconst (pc := 34) (v := iv 0) hx hb dX5_isOn_34 rfl ?_
      refine c_zret (pc := 35) hC hQ hP hD hS (by decide) (by decide) dX5_isOn_35 nz_0 ?_
      exact ⟨congrArg (fun z => some (Value.int z)) (bz_0 (by unfold ON; rw [c_27, Bool.and_false])), rfl⟩
    · have c_27_ := c_27
      refine lv_iconst (pc := 30) (v := iv 1) hx hb dX5_isOn_30 rfl ?_
      refine lv_goto (pc := 31) (tgt := 35) hx hb dX5_isOn_31 (by decide) ?_
      refine c_zret (pc := 35) hC hQ hP hD hS (by decide) (by decide) dX5_isOn_35 nz_1 ?_
      exact ⟨congrArg (fun z => some (Value.int z)) (bz_1 (by unfold ON; rw [decide_eq_true (by omega), c_27]; rfl)), rfl⟩

abbrev rm_c_m_both : Room := { frames := 2, cells := 0, slots := 0, locals := 70 }
set_option maxRecDepth 100000 in
set_option maxHeartbeats 4000000 in
theorem c_m_both (l : Launch) (ε : EV) (m0 : Nat) (ad : Nat → Nat) (n : Nat → Int) (G : Nat → Nat → Int) (R : va_W) (i j : Int) (hi : 0 ≤ i ∧ i < 12) (hv : LV n G i) (hj : 0 ≤ j ∧ j < 12) (hv2 : LV n G j) : CT l yX5_both cX5_both 5 (some .int) rm_c_m_both ε [.ref m0, .int (iv i), .int (iv j)] (wM ε m0 ad n G ++ R) (fun v w => v = some (.int (iv (COMM G i j))) ∧ w = wM ε m0 ad n G ++ R) NX := by
  refine CT.intro (by decide +kernel) (Nat.le_of_ble_eq_true rfl) ?_
  intro p9 e9 s9 m9 a9 bl9 me9 c9 ls Q9 hC hE hP hD hl hQ
  have hx := hC.1
  have hb := hC.2.1
  have hK := hE.K
  have hS : WS ε s9.heap s9.heap [] := va_S.rf
  have hl : lv_has ls 5 [(0, .ref m0), (1, .int (iv i)), (2, .int (iv j))] := hl
  obtain ⟨H, hH⟩ : ∃ H, H = s9.heap := ⟨_, rfl⟩
  obtain ⟨locs, hlo⟩ : ∃ z : List Loc, z = [] := ⟨_, rfl⟩
  rw [← hH] at hP ⊢
  have hS : WS ε s9.heap H locs := by rw [hH, hlo]; exact hS
  rw [← hlo]
  clear hH hlo
  refine lv_iconst (pc := 0) (v := iv 0) hx hb dX5_both_0 rfl ?_
  refine lv_istore_n (lv' := [(3, .int (iv 0)), (0, .ref m0), (1, .int (iv i)), (2, .int (iv j))]) (pc := 1) hx hb dX5_both_1 rfl hl (by decide) rfl (fun ls hl => ?_)
  refine lv_iconst (pc := 2) (v := iv 0) hx hb dX5_both_2 rfl ?_
  refine lv_istore (lv' := [(4, .int (iv 0)), (3, .int (iv 0)), (0, .ref m0), (1, .int (iv i)), (2, .int (iv j))]) (pc := 3) hx hb dX5_both_3 hl (by decide) rfl (fun ls hl => ?_)
  have lp_5 : ∀ (k9 : Nat) (k : Int) (nn : Int) (hk : 0 ≤ k ∧ k ≤ 1024) (hn : nn = CNT (BOTHS G i j) k.toNat) , ((1024 - k).toNat) < k9 → ∀ (H : Heap) (locs : List Loc) (ls : Array Slot), WP ε (wM ε m0 ad n G ++ R) H → WD ε (wM ε m0 ad n G ++ R) → WS ε s9.heap H locs → lv_has ls 5 [(0, .ref m0), (1, .int (iv i)), (2, .int (iv j)), (3, .int (iv nn)), (4, .int (iv k))] → W p9 l e9 rm_c_m_both s9 m9 a9 bl9 me9 c9 H locs 0 0 Q9 (F0 m9 5 ls []) := by
    intro k9
    induction k9 with
    | zero => intro k nn hk hn h9; exact absurd h9 (Nat.not_lt_zero _)
    | succ k9 ih_5 =>
      intro k nn hk hn h9 H locs ls hP hD hS hl
      refine lv_iload (pc := 5) hx hb dX5_both_5 (lv_at hl 4 rfl) ?_
      refine lv_sipush (pc := 7) (v := iv 1024) hx hb dX5_both_7 (by decide) ?_
      refine r_icmp_ge (pc := 10) (a := k) (b := 1024) hx hb dX5_both_10 (tgt := 63) (by decide) ⟨by omega, by omega⟩ ⟨by omega, by omega⟩ (fun c_10 => ?_) (fun c_10 => ?_)
      · have c_10_ := c_10
        have hres : nn = COMM G i j := by rw [hn, show k.toNat = 1024 by omega]; rfl
        refine lv_iload_n (pc := 63) hx hb dX5_both_63 rfl (lv_at hl 3 rfl) ?_
        refine c_iret (pc := 64) hC hQ hP hD hS (by decide) (by decide) dX5_both_64 ?_
        exact ⟨congrArg (fun z => some (Value.int (iv z))) hres, rfl⟩
      · have c_10_ := c_10
        refine lv_iload_n (pc := 13) hx hb dX5_both_13 rfl (lv_at hl 3 rfl) ?_
        refine lv_aload_n (pc := 14) hx hb dX5_both_14 rfl (lv_at hl 0 rfl) ?_
        refine lv_iload_n (pc := 15) hx hb dX5_both_15 rfl (lv_at hl 1 rfl) ?_
        refine lv_iload (pc := 16) hx hb dX5_both_16 (lv_at hl 4 rfl) ?_
        refine lv_bipush (pc := 18) (v := iv 32) hx hb dX5_both_18 (by decide) ?_
        refine r_irem (pc := 20) (a := k) (b := 32) hx hb dX5_both_20 ⟨⟨by omega, by omega⟩, by omega, by omega⟩ ?_
        have hm_20 := Int.emod_nonneg k (show 32 ≠ 0 by omega)
        have hn_20 := Int.emod_lt_of_pos k (show 0 < 32 by omega)
        refine lv_iload (pc := 21) hx hb dX5_both_21 (lv_at hl 4 rfl) ?_
        refine lv_bipush (pc := 23) (v := iv 32) hx hb dX5_both_23 (by decide) ?_
        refine r_idiv (pc := 25) (a := k) (b := 32) hx hb dX5_both_25 ⟨⟨by omega, by omega⟩, by omega, by omega⟩ ?_
        refine c_callV (pc := 26) (y := yX5_sees) (As := [.int (iv i), .int (iv (k % 32)), .int (iv (k / 32))]) (rest := [.int (iv nn)]) hC hE hP hD hS hl.1 (c_m_sees l ε m0 ad n G R (i) (k % 32) (k / 32) hi hv ⟨⟨by omega, by omega⟩, by omega, by omega⟩) m_17_17 m_17_18 m_17_19 m_0_5 m_17_20 wM_o rfl hd_yX5_sees rfl ⟨⟨by decide, by decide⟩, by decide, by decide⟩ (Nat.le_of_ble_eq_true rfl) rfl dX5_both_26 kxN (fun v ws1 H locs hq hP hD hS => ?_)
        rw [hq.2] at hP hD
        rw [hq.1]
        dsimp only [Option.toList, List.cons_append, List.nil_append]
        refine r_if_b0 (pc := 29) (b := tb (SEES G i (k % 32) (k / 32))) hx hb dX5_both_29 (tgt := 54) (by decide)  (fun c_29 => ?_) (fun c_29 => ?_)
        · replace c_29 := tb_no c_29
          refine lv_iconst (pc := 54) (v := iv 0) hx hb dX5_both_54 rfl ?_
          refine r_iadd (pc := 55) (a := nn) (b := 0) hx hb dX5_both_55 ?_
          refine lv_istore_n (lv' := [(3, .int (iv (nn + 0))), (0, .ref m0), (1, .int (iv i)), (2, .int (iv j)), (4, .int (iv k))]) (pc := 56) hx hb dX5_both_56 rfl hl (by decide) rfl (fun ls hl => ?_)
          refine lv_iinc (v := iv (k + 1)) (lv' := [(4, .int (iv (k + 1))), (3, .int (iv (nn + 0))), (0, .ref m0), (1, .int (iv i)), (2, .int (iv j))]) (pc := 57) hx hb dX5_both_57 hl (k := 4) rfl (iv_add _ _) (by decide) rfl (fun ls hl => ?_)
          refine lv_goto (pc := 60) (tgt := 5) hx hb dX5_both_60 (by decide) ?_
          exact ih_5 (k + 1) (nn + 0) (by omega) (by rw [CNT.succ hk.1, tb_f (show ¬ BOTHS G i j k from fun z => c_29 z.1), hn]; rfl) (by omega) _ _ _ hP hD hS (lv_sub hl [2, 3, 4, 1, 0] rfl)
        · replace c_29 := tb_iff.mp c_29
          refine lv_aload_n (pc := 32) hx hb dX5_both_32 rfl (lv_at hl 0 rfl) ?_
          refine lv_iload_n (pc := 33) hx hb dX5_both_33 rfl (lv_at hl 2 rfl) ?_
          refine lv_iload (pc := 34) hx hb dX5_both_34 (lv_at hl 4 rfl) ?_
          refine lv_bipush (pc := 36) (v := iv 32) hx hb dX5_both_36 (by decide) ?_
          refine r_irem (pc := 38) (a := k) (b := 32) hx hb dX5_both_38 ⟨⟨by omega, by omega⟩, by omega, by omega⟩ ?_
          have hm_38 := Int.emod_nonneg k (show 32 ≠ 0 by omega)
          have hn_38 := Int.emod_lt_of_pos k (show 0 < 32 by omega)
          refine lv_iload (pc := 39) hx hb dX5_both_39 (lv_at hl 4 rfl) ?_
          refine lv_bipush (pc := 41) (v := iv 32) hx hb dX5_both_41 (by decide) ?_
          refine r_idiv (pc := 43) (a := k) (b := 32) hx hb dX5_both_43 ⟨⟨by omega, by omega⟩, by omega, by omega⟩ ?_
          refine c_callV (pc := 44) (y := yX5_sees) (As := [.int (iv j), .int (iv (k % 32)), .int (iv (k / 32))]) (rest := [.int (iv nn)]) hC hE hP hD hS hl.1 (c_m_sees l ε m0 ad n G R (j) (k % 32) (k / 32) hj hv2 ⟨⟨by omega, by omega⟩, by omega, by omega⟩) m_17_17 m_17_18 m_17_19 m_0_5 m_17_20 wM_o rfl hd_yX5_sees rfl ⟨⟨by decide, by decide⟩, by decide, by decide⟩ (Nat.le_of_ble_eq_true rfl) rfl dX5_both_44 kxN (fun v ws1 H locs hq hP hD hS => ?_)
          rw [hq.2] at hP hD
          rw [hq.1]
          dsimp only [Option.toList, List.cons_append, List.nil_append]
          refine r_if_b0 (pc := 47) (b := tb (SEES G j (k % 32) (k / 32))) hx hb dX5_both_47 (tgt := 54) (by decide)  (fun c_47 => ?_) (fun c_47 => ?_)
          · replace c_47 := tb_no c_47
            refine lv_iconst (pc := 54) (v := iv 0) hx hb dX5_both_54 rfl ?_
            refine r_iadd (pc := 55) (a := nn) (b := 0) hx hb dX5_both_55 ?_
            refine lv_istore_n (lv' := [(3, .int (iv (nn + 0))), (0, .ref m0), (1, .int (iv i)), (2, .int (iv j)), (4, .int (iv k))]) (pc := 56) hx hb dX5_both_56 rfl hl (by decide) rfl (fun ls hl => ?_)
            refine lv_iinc (v := iv (k + 1)) (lv' := [(4, .int (iv (k + 1))), (3, .int (iv (nn + 0))), (0, .ref m0), (1, .int (iv i)), (2, .int (iv j))]) (pc := 57) hx hb dX5_both_57 hl (k := 4) rfl (iv_add _ _) (by decide) rfl (fun ls hl => ?_)
            refine lv_goto (pc := 60) (tgt := 5) hx hb dX5_both_60 (by decide) ?_
            exact ih_5 (k + 1) (nn + 0) (by omega) (by rw [CNT.succ hk.1, tb_f (show ¬ BOTHS G i j k from fun z => c_47 z.2), hn]; rfl) (by omega) _ _ _ hP hD hS (lv_sub hl [2, 3, 4, 1, 0] rfl)
          · replace c_47 := tb_iff.mp c_47
            refine lv_iconst (pc := 50) (v := iv 1) hx hb dX5_both_50 rfl ?_
            refine lv_goto (pc := 51) (tgt := 55) hx hb dX5_both_51 (by decide) ?_
            refine r_iadd (pc := 55) (a := nn) (b := 1) hx hb dX5_both_55 ?_
            refine lv_istore_n (lv' := [(3, .int (iv (nn + 1))), (0, .ref m0), (1, .int (iv i)), (2, .int (iv j)), (4, .int (iv k))]) (pc := 56) hx hb dX5_both_56 rfl hl (by decide) rfl (fun ls hl => ?_)
            refine lv_iinc (v := iv (k + 1)) (lv' := [(4, .int (iv (k + 1))), (3, .int (iv (nn + 1))), (0, .ref m0), (1, .int (iv i)), (2, .int (iv j))]) (pc := 57) hx hb dX5_both_57 hl (k := 4) rfl (iv_add _ _) (by decide) rfl (fun ls hl => ?_)
            refine lv_goto (pc := 60) (tgt := 5) hx hb dX5_both_60 (by decide) ?_
            exact ih_5 (k + 1) (nn + 1) (by omega) (by rw [CNT.succ hk.1, tb_t (show BOTHS G i j k from ⟨c_29, c_47⟩), hn]; rfl) (by omega) _ _ _ hP hD hS (lv_sub hl [2, 3, 4, 1, 0] rfl)
  exact lp_5 _ 0 0 (by omega) rfl (Nat.lt_succ_self _) _ _ _ hP hD hS (lv_sub hl [2, 3, 4, 1, 0] rfl)

abbrev rm_c_m_could : Room := { frames := 2, cells := 0, slots := 0, locals := 70 }
set_option maxRecDepth 100000 in
set_option maxHeartbeats 4000000 in
theorem c_m_could (l : Launch) (ε : EV) (m0 : Nat) (ad : Nat → Nat) (n : Nat → Int) (G : Nat → Nat → Int) (R : va_W) (q i fr many : Int) (hp : 0 ≤ q ∧ q < 20) (hq : PQ G q) (hi : 0 ≤ i ∧ i < 12) (hv : LV n G i) (hq2 : PQ G (G 6 i.toNat)) (hn1 : n 1 ≤ 20) (hf : 0 ≤ fr ∧ fr ≤ 1000) (hm : 1 ≤ many ∧ many ≤ 60) : CT l yX5_could cX5_could 9 (some .boolean) rm_c_m_could ε [.ref m0, .int (iv q), .int (iv i), .int (iv fr), .int (iv many)] (wM ε m0 ad n G ++ R) (fun v w => v = some (.int (iv (bz (tb (COULD G q i fr many))))) ∧ w = wM ε m0 ad n G ++ R) NX := by
  refine CT.intro (by decide +kernel) (Nat.le_of_ble_eq_true rfl) ?_
  intro p9 e9 s9 m9 a9 bl9 me9 c9 ls Q9 hC hE hP hD hl hQ
  have hx := hC.1
  have hb := hC.2.1
  have hK := hE.K
  have hS : WS ε s9.heap s9.heap [] := va_S.rf
  have hl : lv_has ls 9 [(0, .ref m0), (1, .int (iv q)), (2, .int (iv i)), (3, .int (iv fr)), (4, .int (iv many))] := hl
  obtain ⟨H, hH⟩ : ∃ H, H = s9.heap := ⟨_, rfl⟩
  obtain ⟨locs, hlo⟩ : ∃ z : List Loc, z = [] := ⟨_, rfl⟩
  rw [← hH] at hP ⊢
  have hS : WS ε s9.heap H locs := by rw [hH, hlo]; exact hS
  rw [← hlo]
  clear hH hlo
  have hper := hq.per
  refine lv_iconst (pc := 0) (v := iv 0) hx hb dX5_could_0 rfl ?_
  refine lv_istore (lv' := [(5, .int (iv 0)), (0, .ref m0), (1, .int (iv q)), (2, .int (iv i)), (3, .int (iv fr)), (4, .int (iv many))]) (pc := 1) hx hb dX5_could_1 hl (by decide) rfl (fun ls hl => ?_)
  refine lv_iconst (pc := 3) (v := iv 0) hx hb dX5_could_3 rfl ?_
  refine lv_istore (lv' := [(6, .int (iv 0)), (5, .int (iv 0)), (0, .ref m0), (1, .int (iv q)), (2, .int (iv i)), (3, .int (iv fr)), (4, .int (iv many))]) (pc := 4) hx hb dX5_could_4 hl (by decide) rfl (fun ls hl => ?_)
  have lp_6 : ∀ (k9 : Nat) (fd : Bool) (t : Int) (ht : 0 ≤ t ∧ t ≤ G 3 q.toNat) (hfd : fd = true ↔ EXb (fun t9 => ALLb (fun u9 => LQ G q (t9 + u9) = ON G i (fr + u9)) many) t) , ((G 3 q.toNat - t).toNat) < k9 → ∀ (H : Heap) (locs : List Loc) (ls : Array Slot), WP ε (wM ε m0 ad n G ++ R) H → WD ε (wM ε m0 ad n G ++ R) → WS ε s9.heap H locs → lv_has ls 9 [(0, .ref m0), (1, .int (iv q)), (2, .int (iv i)), (3, .int (iv fr)), (4, .int (iv many)), (5, .int (iv (bz fd))), (6, .int (iv t))] → W p9 l e9 rm_c_m_could s9 m9 a9 bl9 me9 c9 H locs 0 0 Q9 (F0 m9 6 ls []) := by
    intro k9
    induction k9 with
    | zero => intro fd t ht hfd h9; exact absurd h9 (Nat.not_lt_zero _)
    | succ k9 ih_6 =>
      intro fd t ht hfd h9 H locs ls hP hD hS hl
      refine lv_iload (pc := 6) hx hb dX5_could_6 (lv_at hl 6 rfl) ?_
      refine lv_aload_n (pc := 8) hx hb dX5_could_8 rfl (lv_at hl 0 rfl) ?_
      refine r_get (pc := 9) hC hK hP wM_o (hc := rfl) (fun w h => wt_1 w h) 5 (by decide) m_1_20 (fun _ h => h) (v := .ref (ad 3)) rfl dX5_could_9 ?_
      refine lv_iload_n (pc := 12) hx hb dX5_could_12 rfl (lv_at hl 1 rfl) ?_
      refine r_iald (pc := 13) (z := q) hC hK hP wM_3 ⟨by omega, by omega, by decide⟩ dX5_could_13 ?_
      refine r_icmp_ge (pc := 14) (a := t) (b := G 3 q.toNat) hx hb dX5_could_14 (tgt := 81) (by decide) ⟨by omega, by omega⟩ ⟨by omega, by omega⟩ (fun c_14 => ?_) (fun c_14 => ?_)
      · have c_14_ := c_14
        have hres : fd = true ↔ COULD G q i fr many := by
         rw [hfd, show t = G 3 q.toNat by omega]
         rfl
        refine lv_iload (pc := 81) hx hb dX5_could_81 (lv_at hl 5 rfl) ?_
        refine c_zret (pc := 83) hC hQ hP hD hS (by decide) (by decide) dX5_could_83 (nz_b _) ?_
        exact ⟨congrArg (fun z => some (Value.int (iv (bz z)))) (tb_of hres), rfl⟩
      · have c_14_ := c_14
        refine lv_iconst (pc := 17) (v := iv 1) hx hb dX5_could_17 rfl ?_
        refine lv_istore (lv' := [(7, .int (iv 1)), (0, .ref m0), (1, .int (iv q)), (2, .int (iv i)), (3, .int (iv fr)), (4, .int (iv many)), (5, .int (iv (bz fd))), (6, .int (iv t))]) (pc := 18) hx hb dX5_could_18 hl (by decide) rfl (fun ls hl => ?_)
        refine lv_iconst (pc := 20) (v := iv 0) hx hb dX5_could_20 rfl ?_
        refine lv_istore (lv' := [(8, .int (iv 0)), (7, .int (iv 1)), (0, .ref m0), (1, .int (iv q)), (2, .int (iv i)), (3, .int (iv fr)), (4, .int (iv many)), (5, .int (iv (bz fd))), (6, .int (iv t))]) (pc := 21) hx hb dX5_could_21 hl (by decide) rfl (fun ls hl => ?_)
        have lp_23 : ∀ (k9 : Nat) (is : Bool) (u : Int) (hu : 0 ≤ u ∧ u ≤ many) (his : is = true ↔ ALLb (fun u9 => LQ G q (t + u9) = ON G i (fr + u9)) u) , ((many - u).toNat) < k9 → ∀ (H : Heap) (locs : List Loc) (ls : Array Slot), WP ε (wM ε m0 ad n G ++ R) H → WD ε (wM ε m0 ad n G ++ R) → WS ε s9.heap H locs → lv_has ls 9 [(0, .ref m0), (1, .int (iv q)), (2, .int (iv i)), (3, .int (iv fr)), (4, .int (iv many)), (5, .int (iv (bz fd))), (6, .int (iv t)), (7, .int (iv (bz is))), (8, .int (iv u))] → W p9 l e9 rm_c_m_could s9 m9 a9 bl9 me9 c9 H locs 0 0 Q9 (F0 m9 23 ls []) := by
          intro k9
          induction k9 with
          | zero => intro is u hu his h9; exact absurd h9 (Nat.not_lt_zero _)
          | succ k9 ih_23 =>
            intro is u hu his h9 H locs ls hP hD hS hl
            refine lv_iload (pc := 23) hx hb dX5_could_23 (lv_at hl 8 rfl) ?_
            refine lv_iload (pc := 25) hx hb dX5_could_25 (lv_at hl 4 rfl) ?_
            refine r_icmp_ge (pc := 27) (a := u) (b := many) hx hb dX5_could_27 (tgt := 68) (by decide) ⟨by omega, by omega⟩ ⟨by omega, by omega⟩ (fun c_27 => ?_) (fun c_27 => ?_)
            · have c_27_ := c_27
              refine lv_iload (pc := 68) hx hb dX5_could_68 (lv_at hl 5 rfl) ?_
              refine lv_iload (pc := 70) hx hb dX5_could_70 (lv_at hl 7 rfl) ?_
              refine lv_ior (pc := 72) (x := iv (bz fd)) (y := iv (bz is)) hx hb dX5_could_72 ?_
              rw [bz_or]
              refine lv_istore (lv' := [(5, .int (iv (bz ((fd || is))))), (0, .ref m0), (1, .int (iv q)), (2, .int (iv i)), (3, .int (iv fr)), (4, .int (iv many)), (6, .int (iv t)), (7, .int (iv (bz is))), (8, .int (iv u))]) (pc := 73) hx hb dX5_could_73 hl (by decide) rfl (fun ls hl => ?_)
              have hbk := ex_or (P := (fun t9 => ALLb (fun u9 => LQ G q (t9 + u9) = ON G i (fr + u9)) many)) ht.1 hfd (b := is) (his.trans ⟨fun z => z.eq (by omega), fun z => z.eq (by omega)⟩)
              refine lv_iinc (v := iv (t + 1)) (lv' := [(6, .int (iv (t + 1))), (5, .int (iv (bz ((fd || is))))), (0, .ref m0), (1, .int (iv q)), (2, .int (iv i)), (3, .int (iv fr)), (4, .int (iv many)), (7, .int (iv (bz is))), (8, .int (iv u))]) (pc := 75) hx hb dX5_could_75 hl (k := 6) rfl (iv_add _ _) (by decide) rfl (fun ls hl => ?_)
              refine lv_goto (pc := 78) (tgt := 6) hx hb dX5_could_78 (by decide) ?_
              exact ih_6 ((fd || is)) (t + 1) (by omega) hbk (by omega) _ _ _ hP hD hS (lv_sub hl [2, 3, 4, 5, 6, 1, 0] rfl)
            · have c_27_ := c_27
              have lp_59 : ∀ (bb : Bool) (hb9 : bb = true ↔ LQ G q (t + u) = ON G i (fr + u)), ∀ (H : Heap) (locs : List Loc) (ls : Array Slot), WP ε (wM ε m0 ad n G ++ R) H → WD ε (wM ε m0 ad n G ++ R) → WS ε s9.heap H locs → lv_has ls 9 [(0, .ref m0), (1, .int (iv q)), (2, .int (iv i)), (3, .int (iv fr)), (4, .int (iv many)), (5, .int (iv (bz fd))), (6, .int (iv t)), (7, .int (iv (bz is))), (8, .int (iv u))] → W p9 l e9 rm_c_m_could s9 m9 a9 bl9 me9 c9 H locs 0 0 Q9 (F0 m9 59 ls [.int (iv (bz bb)), .int (iv (bz is))]) := by
                intro bb hb9 H locs ls hP hD hS hl
                refine lv_iand (pc := 59) (x := iv (bz is)) (y := iv (bz bb)) hx hb dX5_could_59 ?_
                rw [bz_and]
                refine lv_istore (lv' := [(7, .int (iv (bz ((is && bb))))), (0, .ref m0), (1, .int (iv q)), (2, .int (iv i)), (3, .int (iv fr)), (4, .int (iv many)), (5, .int (iv (bz fd))), (6, .int (iv t)), (8, .int (iv u))]) (pc := 60) hx hb dX5_could_60 hl (by decide) rfl (fun ls hl => ?_)
                refine lv_iinc (v := iv (u + 1)) (lv' := [(8, .int (iv (u + 1))), (7, .int (iv (bz ((is && bb))))), (0, .ref m0), (1, .int (iv q)), (2, .int (iv i)), (3, .int (iv fr)), (4, .int (iv many)), (5, .int (iv (bz fd))), (6, .int (iv t))]) (pc := 62) hx hb dX5_could_62 hl (k := 8) rfl (iv_add _ _) (by decide) rfl (fun ls hl => ?_)
                refine lv_goto (pc := 65) (tgt := 23) hx hb dX5_could_65 (by decide) ?_
                exact ih_23 ((is && bb)) (u + 1) (by omega) (al_and (P := (fun u9 => LQ G q (t + u9) = ON G i (fr + u9))) (by omega) his hb9) (by omega) _ _ _ hP hD hS (lv_sub hl [2, 3, 4, 5, 6, 7, 8, 1, 0] rfl)
              refine lv_iload (pc := 30) hx hb dX5_could_30 (lv_at hl 7 rfl) ?_
              refine lv_aload_n (pc := 32) hx hb dX5_could_32 rfl (lv_at hl 0 rfl) ?_
              refine lv_iload_n (pc := 33) hx hb dX5_could_33 rfl (lv_at hl 1 rfl) ?_
              refine lv_iload (pc := 34) hx hb dX5_could_34 (lv_at hl 6 rfl) ?_
              refine lv_iload (pc := 36) hx hb dX5_could_36 (lv_at hl 8 rfl) ?_
              refine r_iadd (pc := 38) (a := t) (b := u) hx hb dX5_could_38 ?_
              refine c_callV (pc := 39) (y := yX5_isLight) (As := [.int (iv q), .int (iv (t + u))]) (rest := [.int (iv (bz is))]) hC hE hP hD hS hl.1 (c_m_isLight l ε m0 ad n G R (q) (t + u) hp hq ⟨by omega, by omega⟩) m_10_7 m_10_8 m_10_9 m_0_5 m_10_10 wM_o rfl hd_yX5_isLight rfl ⟨⟨by decide, by decide⟩, by decide, by decide⟩ (Nat.le_of_ble_eq_true rfl) rfl dX5_could_39 kxN (fun v ws1 H locs hq hP hD hS => ?_)
              rw [hq.2] at hP hD
              rw [hq.1]
              dsimp only [Option.toList, List.cons_append, List.nil_append]
              refine lv_aload_n (pc := 42) hx hb dX5_could_42 rfl (lv_at hl 0 rfl) ?_
              refine lv_iload_n (pc := 43) hx hb dX5_could_43 rfl (lv_at hl 2 rfl) ?_
              refine lv_iload_n (pc := 44) hx hb dX5_could_44 rfl (lv_at hl 3 rfl) ?_
              refine lv_iload (pc := 45) hx hb dX5_could_45 (lv_at hl 8 rfl) ?_
              refine r_iadd (pc := 47) (a := fr) (b := u) hx hb dX5_could_47 ?_
              refine c_callV (pc := 48) (y := yX5_isOn) (As := [.int (iv i), .int (iv (fr + u))]) (rest := [.int (iv (bz (LQ G q (t + u)))), .int (iv (bz is))]) hC hE hP hD hS hl.1 (c_m_isOn l ε m0 ad n G R (i) (fr + u) hi hv hq2 hn1 ⟨by omega, by omega⟩) m_16_1 m_16_2 m_16_3 m_0_5 m_16_4 wM_o rfl hd_yX5_isOn rfl ⟨⟨by decide, by decide⟩, by decide, by decide⟩ (Nat.le_of_ble_eq_true rfl) rfl dX5_could_48 kxN (fun v ws1 H locs hq hP hD hS => ?_)
              rw [hq.2] at hP hD
              rw [hq.1]
              dsimp only [Option.toList, List.cons_append, List.nil_append]
              refine r_icmp_ne (pc := 51) (a := bz (LQ G q (t + u))) (b := bz (ON G i (fr + u))) hx hb dX5_could_51 (tgt := 58) (by decide) (bz_rg _) (bz_rg _) (fun c_51 => ?_) (fun c_51 => ?_)
              · have c_51_ := c_51
                refine lv_iconst (pc := 58) (v := iv 0) hx hb dX5_could_58 rfl ?_
                exact lp_59 false ⟨fun z => (by cases z), fun z => absurd (congrArg bz z) c_51⟩ _ _ _ hP hD hS (lv_sub hl [0, 1, 2, 3, 4, 5, 6, 7, 8] rfl)
              · have c_51_ := c_51
                refine lv_iconst (pc := 54) (v := iv 1) hx hb dX5_could_54 rfl ?_
                refine lv_goto (pc := 55) (tgt := 59) hx hb dX5_could_55 (by decide) ?_
                exact lp_59 true ⟨fun _ => bz_inj (by omega), fun _ => rfl⟩ _ _ _ hP hD hS (lv_sub hl [0, 1, 2, 3, 4, 5, 6, 7, 8] rfl)
        exact lp_23 _ true 0 (by omega) ⟨fun _ => ALLb.zero (by omega), fun _ => rfl⟩ (Nat.lt_succ_self _) _ _ _ hP hD hS (lv_sub hl [2, 3, 4, 5, 6, 7, 8, 1, 0] rfl)
  exact lp_6 _ false 0 (by omega) ⟨fun z => (by cases z), fun z => absurd z (EXb.zero (by omega))⟩ (Nat.lt_succ_self _) _ _ _ hP hD hS (lv_sub hl [2, 3, 4, 5, 6, 1, 0] rfl)

abbrev rm_c_m_asks : Room := { frames := 2, cells := 0, slots := 0, locals := 60 }
set_option maxRecDepth 100000 in
set_option maxHeartbeats 4000000 in
theorem c_m_asks (l : Launch) (ε : EV) (m0 : Nat) (ad : Nat → Nat) (n : Nat → Int) (G : Nat → Nat → Int) (R : va_W) (i x y : Int) (ri : rg i) (rx : rg x) (ry : rg y) (hV1 : VPat n G) (hV : VLam n G) : CT l yX5_asks cX5_asks 4 (some .boolean) rm_c_m_asks ε [.ref m0, .int (iv i), .int (iv x), .int (iv y)] (wM ε m0 ad n G ++ R) (fun v w => ((¬ (0 ≤ i ∧ i < n 2)) ∧ v = some (.int (iv 0)) ∧ w = wM ε m0 ad (va_up n 5 1) G ++ R) ∨ (((0 ≤ i ∧ i < n 2) ∧ ¬ ((0 ≤ x ∧ x ≤ 31) ∧ 0 ≤ y ∧ y ≤ 31)) ∧ v = some (.int (iv 0)) ∧ w = wM ε m0 ad (va_up n 5 2) G ++ R) ∨ (((0 ≤ i ∧ i < n 2) ∧ ((0 ≤ x ∧ x ≤ 31) ∧ 0 ≤ y ∧ y ≤ 31)) ∧ v = some (.int (iv (bz true))) ∧ w = wM ε m0 ad (va_up n 5 0) G ++ R)) NX := by
  refine CT.intro (by decide +kernel) (Nat.le_of_ble_eq_true rfl) ?_
  intro p9 e9 s9 m9 a9 bl9 me9 c9 ls Q9 hC hE hP hD hl hQ
  have hx := hC.1
  have hb := hC.2.1
  have hK := hE.K
  have hS : WS ε s9.heap s9.heap [] := va_S.rf
  have hl : lv_has ls 4 [(0, .ref m0), (1, .int (iv i)), (2, .int (iv x)), (3, .int (iv y))] := hl
  obtain ⟨H, hH⟩ : ∃ H, H = s9.heap := ⟨_, rfl⟩
  obtain ⟨locs, hlo⟩ : ∃ z : List Loc, z = [] := ⟨_, rfl⟩
  rw [← hH] at hP ⊢
  have hS : WS ε s9.heap H locs := by rw [hH, hlo]; exact hS
  rw [← hlo]
  clear hH hlo
  have hn1 := hV1.1
  have hn2 := hV.1
  refine lv_aload_n (pc := 0) hx hb dX5_asks_0 rfl (lv_at hl 0 rfl) ?_
  refine lv_aload_n (pc := 1) hx hb dX5_asks_1 rfl (lv_at hl 0 rfl) ?_
  refine lv_iload_n (pc := 2) hx hb dX5_asks_2 rfl (lv_at hl 1 rfl) ?_
  refine c_callV (pc := 3) (y := yX5_isLamp) (As := [.int (iv i)]) (rest := [.ref m0]) hC hE hP hD hS hl.1 (c_m_isLamp l ε m0 ad n G R (i) ⟨by omega, by omega⟩ ⟨by omega, by omega⟩) m_14_18 m_14_19 m_14_20 m_0_5 m_14_21 wM_o rfl hd_yX5_isLamp rfl ⟨⟨by decide, by decide⟩, by decide, by decide⟩ (Nat.le_of_ble_eq_true rfl) rfl dX5_asks_3 kxN (fun v ws1 H locs hq hP hD hS => ?_)
  rw [hq.2] at hP hD
  rw [hq.1]
  dsimp only [Option.toList, List.cons_append, List.nil_append]
  refine r_if_b1 (pc := 6) (b := decide (0 ≤ i ∧ i < n 2)) hx hb dX5_asks_6 (tgt := 13) (by decide)  (fun c_6 => ?_) (fun c_6 => ?_)
  · replace c_6 := of_decide_eq_true c_6
    refine lv_iload_n (pc := 13) hx hb dX5_asks_13 rfl (lv_at hl 2 rfl) ?_
    refine lv_iload_n (pc := 14) hx hb dX5_asks_14 rfl (lv_at hl 3 rfl) ?_
    refine c_callS (pc := 15) (y := yX5_isPlace) (As := [.int (iv x), .int (iv y)]) (rest := [.ref m0]) hC hE hP hD hS hl.1 (c_m_isPlace l ε (wM ε m0 ad n G ++ R) (x) (y) ⟨by omega, by omega⟩ ⟨by omega, by omega⟩) m_13_23 m_13_24 m_0_5 m_14_0 hd_yX5_isPlace rfl ⟨⟨by decide, by decide⟩, by decide, by decide⟩ (Nat.le_of_ble_eq_true rfl) rfl dX5_asks_15 kxN (fun v ws1 H locs hq hP hD hS => ?_)
    rw [hq.2] at hP hD
    rw [hq.1]
    dsimp only [Option.toList, List.cons_append, List.nil_append]
    refine r_if_b0 (pc := 18) (b := decide ((0 ≤ x ∧ x ≤ 31) ∧ 0 ≤ y ∧ y ≤ 31)) hx hb dX5_asks_18 (tgt := 25) (by decide)  (fun c_18 => ?_) (fun c_18 => ?_)
    · replace c_18 := of_decide_eq_false c_18
      refine lv_iconst (pc := 25) (v := iv 2) hx hb dX5_asks_25 rfl ?_
      refine m_put5 (pc := 26) (v := 2) hC hK hP hD hS m_3_4 dX5_asks_26 (fun H locs hP hD hS => ?_)
      refine lv_aload_n (pc := 29) hx hb dX5_asks_29 rfl (lv_at hl 0 rfl) ?_
      refine r_get (pc := 30) hC hK hP wM_o (hc := rfl) (fun w h => wt_1 w h) 19 (by decide) m_3_4 (fun _ h => h) (v := .int (iv 2)) rfl dX5_asks_30 ?_
      refine r_if_ne (pc := 33) (a := 2) hx hb dX5_asks_33 (tgt := 40) (by decide) ⟨by omega, by omega⟩ (fun c_33 => ?_) (fun c_33 => ?_)
      · have c_33_ := c_33
        refine lv_iconst (pc := 40) (v := iv 0) hx hb dX5_asks_40 rfl ?_
        refine c_zret (pc := 41) hC hQ hP hD hS (by decide) (by decide) dX5_asks_41 nz_0 ?_
        exact Or.inr (Or.inl (⟨(by omega), rfl, rfl⟩))
      · exact absurd c_33 (by decide)
    · replace c_18 := of_decide_eq_true c_18
      refine lv_iconst (pc := 21) (v := iv 0) hx hb dX5_asks_21 rfl ?_
      refine lv_goto (pc := 22) (tgt := 26) hx hb dX5_asks_22 (by decide) ?_
      refine m_put5 (pc := 26) (v := 0) hC hK hP hD hS m_3_4 dX5_asks_26 (fun H locs hP hD hS => ?_)
      refine lv_aload_n (pc := 29) hx hb dX5_asks_29 rfl (lv_at hl 0 rfl) ?_
      refine r_get (pc := 30) hC hK hP wM_o (hc := rfl) (fun w h => wt_1 w h) 19 (by decide) m_3_4 (fun _ h => h) (v := .int (iv 0)) rfl dX5_asks_30 ?_
      refine r_if_ne (pc := 33) (a := 0) hx hb dX5_asks_33 (tgt := 40) (by decide) ⟨by omega, by omega⟩ (fun c_33 => ?_) (fun c_33 => ?_)
      · exact absurd c_33 (by decide)
      · have c_33_ := c_33
        refine lv_iconst (pc := 36) (v := iv 1) hx hb dX5_asks_36 rfl ?_
        refine lv_goto (pc := 37) (tgt := 41) hx hb dX5_asks_37 (by decide) ?_
        refine c_zret (pc := 41) hC hQ hP hD hS (by decide) (by decide) dX5_asks_41 nz_1 ?_
        exact Or.inr (Or.inr (⟨(by omega), rfl, rfl⟩))
  · replace c_6 := of_decide_eq_false c_6
    refine lv_iconst (pc := 9) (v := iv 1) hx hb dX5_asks_9 rfl ?_
    refine lv_goto (pc := 10) (tgt := 26) hx hb dX5_asks_10 (by decide) ?_
    refine m_put5 (pc := 26) (v := 1) hC hK hP hD hS m_3_4 dX5_asks_26 (fun H locs hP hD hS => ?_)
    refine lv_aload_n (pc := 29) hx hb dX5_asks_29 rfl (lv_at hl 0 rfl) ?_
    refine r_get (pc := 30) hC hK hP wM_o (hc := rfl) (fun w h => wt_1 w h) 19 (by decide) m_3_4 (fun _ h => h) (v := .int (iv 1)) rfl dX5_asks_30 ?_
    refine r_if_ne (pc := 33) (a := 1) hx hb dX5_asks_33 (tgt := 40) (by decide) ⟨by omega, by omega⟩ (fun c_33 => ?_) (fun c_33 => ?_)
    · have c_33_ := c_33
      refine lv_iconst (pc := 40) (v := iv 0) hx hb dX5_asks_40 rfl ?_
      refine c_zret (pc := 41) hC hQ hP hD hS (by decide) (by decide) dX5_asks_41 nz_0 ?_
      exact Or.inl (⟨(by omega), rfl, rfl⟩)
    · exact absurd c_33 (by decide)

abbrev rm_c_m_sector : Room := { frames := 3, cells := 0, slots := 0, locals := 90 }
set_option maxRecDepth 100000 in
set_option maxHeartbeats 4000000 in
theorem c_m_sector (l : Launch) (ε : EV) (m0 : Nat) (ad : Nat → Nat) (n : Nat → Int) (G : Nat → Nat → Int) (R : va_W) (i x y : Int) (ri : rg i) (rx : rg x) (ry : rg y) (hV1 : VPat n G) (hV : VLam n G) : CT l yX5_sector cX5_sector 4 (some .int) rm_c_m_sector ε [.ref m0, .int (iv i), .int (iv x), .int (iv y)] (wM ε m0 ad n G ++ R) (fun v w => ((¬ (0 ≤ i ∧ i < n 2)) ∧ v = some (.int (iv 0)) ∧ w = wM ε m0 ad (va_up n 5 1) G ++ R) ∨ (((0 ≤ i ∧ i < n 2) ∧ ¬ ((0 ≤ x ∧ x ≤ 31) ∧ 0 ≤ y ∧ y ≤ 31)) ∧ v = some (.int (iv 0)) ∧ w = wM ε m0 ad (va_up n 5 2) G ++ R) ∨ (((0 ≤ i ∧ i < n 2) ∧ ((0 ≤ x ∧ x ≤ 31) ∧ 0 ≤ y ∧ y ≤ 31)) ∧ v = some (.int (iv (sectP (x - G 4 i.toNat) (y - G 5 i.toNat)))) ∧ w = wM ε m0 ad (va_up n 5 0) G ++ R)) NX := by
  refine CT.intro (by decide +kernel) (Nat.le_of_ble_eq_true rfl) ?_
  intro p9 e9 s9 m9 a9 bl9 me9 c9 ls Q9 hC hE hP hD hl hQ
  have hx := hC.1
  have hb := hC.2.1
  have hK := hE.K
  have hS : WS ε s9.heap s9.heap [] := va_S.rf
  have hl : lv_has ls 4 [(0, .ref m0), (1, .int (iv i)), (2, .int (iv x)), (3, .int (iv y))] := hl
  obtain ⟨H, hH⟩ : ∃ H, H = s9.heap := ⟨_, rfl⟩
  obtain ⟨locs, hlo⟩ : ∃ z : List Loc, z = [] := ⟨_, rfl⟩
  rw [← hH] at hP ⊢
  have hS : WS ε s9.heap H locs := by rw [hH, hlo]; exact hS
  rw [← hlo]
  clear hH hlo
  have hn1 := hV1.1
  have hn2 := hV.1
  refine lv_aload_n (pc := 0) hx hb dX5_sector_0 rfl (lv_at hl 0 rfl) ?_
  refine lv_iload_n (pc := 1) hx hb dX5_sector_1 rfl (lv_at hl 1 rfl) ?_
  refine lv_iload_n (pc := 2) hx hb dX5_sector_2 rfl (lv_at hl 2 rfl) ?_
  refine lv_iload_n (pc := 3) hx hb dX5_sector_3 rfl (lv_at hl 3 rfl) ?_
  refine c_callV (pc := 4) (y := yX5_asks) (As := [.int (iv i), .int (iv x), .int (iv y)]) (rest := []) hC hE hP hD hS hl.1 (c_m_asks l ε m0 ad n G R i x y ri rx ry hV1 hV) m_16_19 m_16_20 m_16_21 m_0_5 m_16_22 wM_o rfl hd_yX5_asks rfl ⟨⟨by decide, by decide⟩, by decide, by decide⟩ (Nat.le_of_ble_eq_true rfl) rfl dX5_sector_4 kxN (fun v ws1 H locs hq hP hD hS => ?_)
  rcases hq with hq | hq | hq
  · obtain ⟨hq1, hq2, hq3⟩ := hq
    rw [hq3] at hP hD
    rw [hq2]
    dsimp only [Option.toList, List.cons_append, List.nil_append]
    refine r_if_eq (pc := 7) (a := 0) hx hb dX5_sector_7 (tgt := 20) (by decide) ⟨by omega, by omega⟩ (fun c_7 => ?_) (fun c_7 => ?_)
    · have c_7_ := c_7
      refine lv_iconst (pc := 20) (v := iv 0) hx hb dX5_sector_20 rfl ?_
      refine c_iret (pc := 21) hC hQ hP hD hS (by decide) (by decide) dX5_sector_21 ?_
      exact Or.inl (⟨hq1, rfl, rfl⟩)
    · exact absurd c_7 (by decide)
  · obtain ⟨hq1, hq2, hq3⟩ := hq
    rw [hq3] at hP hD
    rw [hq2]
    dsimp only [Option.toList, List.cons_append, List.nil_append]
    refine r_if_eq (pc := 7) (a := 0) hx hb dX5_sector_7 (tgt := 20) (by decide) ⟨by omega, by omega⟩ (fun c_7 => ?_) (fun c_7 => ?_)
    · have c_7_ := c_7
      refine lv_iconst (pc := 20) (v := iv 0) hx hb dX5_sector_20 rfl ?_
      refine c_iret (pc := 21) hC hQ hP hD hS (by decide) (by decide) dX5_sector_21 ?_
      exact Or.inr (Or.inl (⟨hq1, rfl, rfl⟩))
    · exact absurd c_7 (by decide)
  · obtain ⟨hq1, hq2, hq3⟩ := hq
    rw [hq3] at hP hD
    rw [hq2]
    dsimp only [Option.toList, List.cons_append, List.nil_append]
    refine r_if_eq (pc := 7) (a := 1) hx hb dX5_sector_7 (tgt := 20) (by decide) ⟨by omega, by omega⟩ (fun c_7 => ?_) (fun c_7 => ?_)
    · exact absurd c_7 (by decide)
    · have c_7_ := c_7
      refine lv_aload_n (pc := 10) hx hb dX5_sector_10 rfl (lv_at hl 0 rfl) ?_
      refine lv_iload_n (pc := 11) hx hb dX5_sector_11 rfl (lv_at hl 1 rfl) ?_
      refine lv_iload_n (pc := 12) hx hb dX5_sector_12 rfl (lv_at hl 2 rfl) ?_
      refine lv_iload_n (pc := 13) hx hb dX5_sector_13 rfl (lv_at hl 3 rfl) ?_
      refine c_callV (pc := 14) (y := yX5_sectorOf) (As := [.int (iv i), .int (iv x), .int (iv y)]) (rest := []) hC hE hP hD hS hl.1 (c_m_sectorOf l ε m0 ad (va_up n 5 0) G R (i) (x) (y) ⟨by omega, by omega⟩ (hV.i (by omega) (by omega)) ⟨⟨by omega, by omega⟩, by omega, by omega⟩) m_16_23 m_16_24 m_17_0 m_0_5 m_17_1 wM_o rfl hd_yX5_sectorOf rfl ⟨⟨by decide, by decide⟩, by decide, by decide⟩ (Nat.le_of_ble_eq_true rfl) rfl dX5_sector_14 kxN (fun v ws1 H locs hq hP hD hS => ?_)
      rw [hq.2] at hP hD
      rw [hq.1]
      dsimp only [Option.toList, List.cons_append, List.nil_append]
      refine lv_goto (pc := 17) (tgt := 21) hx hb dX5_sector_17 (by decide) ?_
      refine c_iret (pc := 21) hC hQ hP hD hS (by decide) (by decide) dX5_sector_21 ?_
      exact Or.inr (Or.inr (⟨hq1, rfl, rfl⟩))

abbrev rm_c_m_isSeen : Room := { frames := 3, cells := 0, slots := 0, locals := 90 }
set_option maxRecDepth 100000 in
set_option maxHeartbeats 4000000 in
theorem c_m_isSeen (l : Launch) (ε : EV) (m0 : Nat) (ad : Nat → Nat) (n : Nat → Int) (G : Nat → Nat → Int) (R : va_W) (i x y : Int) (ri : rg i) (rx : rg x) (ry : rg y) (hV1 : VPat n G) (hV : VLam n G) : CT l yX5_isSeen cX5_isSeen 4 (some .boolean) rm_c_m_isSeen ε [.ref m0, .int (iv i), .int (iv x), .int (iv y)] (wM ε m0 ad n G ++ R) (fun v w => ((¬ (0 ≤ i ∧ i < n 2)) ∧ v = some (.int (iv 0)) ∧ w = wM ε m0 ad (va_up n 5 1) G ++ R) ∨ (((0 ≤ i ∧ i < n 2) ∧ ¬ ((0 ≤ x ∧ x ≤ 31) ∧ 0 ≤ y ∧ y ≤ 31)) ∧ v = some (.int (iv 0)) ∧ w = wM ε m0 ad (va_up n 5 2) G ++ R) ∨ (((0 ≤ i ∧ i < n 2) ∧ ((0 ≤ x ∧ x ≤ 31) ∧ 0 ≤ y ∧ y ≤ 31)) ∧ v = some (.int (iv (bz (tb (SEES G i x y))))) ∧ w = wM ε m0 ad (va_up n 5 0) G ++ R)) NX := by
  refine CT.intro (by decide +kernel) (Nat.le_of_ble_eq_true rfl) ?_
  intro p9 e9 s9 m9 a9 bl9 me9 c9 ls Q9 hC hE hP hD hl hQ
  have hx := hC.1
  have hb := hC.2.1
  have hK := hE.K
  have hS : WS ε s9.heap s9.heap [] := va_S.rf
  have hl : lv_has ls 4 [(0, .ref m0), (1, .int (iv i)), (2, .int (iv x)), (3, .int (iv y))] := hl
  obtain ⟨H, hH⟩ : ∃ H, H = s9.heap := ⟨_, rfl⟩
  obtain ⟨locs, hlo⟩ : ∃ z : List Loc, z = [] := ⟨_, rfl⟩
  rw [← hH] at hP ⊢
  have hS : WS ε s9.heap H locs := by rw [hH, hlo]; exact hS
  rw [← hlo]
  clear hH hlo
  have hn1 := hV1.1
  have hn2 := hV.1
  refine lv_aload_n (pc := 0) hx hb dX5_isSeen_0 rfl (lv_at hl 0 rfl) ?_
  refine lv_iload_n (pc := 1) hx hb dX5_isSeen_1 rfl (lv_at hl 1 rfl) ?_
  refine lv_iload_n (pc := 2) hx hb dX5_isSeen_2 rfl (lv_at hl 2 rfl) ?_
  refine lv_iload_n (pc := 3) hx hb dX5_isSeen_3 rfl (lv_at hl 3 rfl) ?_
  refine c_callV (pc := 4) (y := yX5_asks) (As := [.int (iv i), .int (iv x), .int (iv y)]) (rest := []) hC hE hP hD hS hl.1 (c_m_asks l ε m0 ad n G R i x y ri rx ry hV1 hV) m_16_19 m_16_20 m_16_21 m_0_5 m_16_22 wM_o rfl hd_yX5_asks rfl ⟨⟨by decide, by decide⟩, by decide, by decide⟩ (Nat.le_of_ble_eq_true rfl) rfl dX5_isSeen_4 kxN (fun v ws1 H locs hq hP hD hS => ?_)
  rcases hq with hq | hq | hq
  · obtain ⟨hq1, hq2, hq3⟩ := hq
    rw [hq3] at hP hD
    rw [hq2]
    dsimp only [Option.toList, List.cons_append, List.nil_append]
    refine r_if_eq (pc := 7) (a := 0) hx hb dX5_isSeen_7 (tgt := 24) (by decide) ⟨by omega, by omega⟩ (fun c_7 => ?_) (fun c_7 => ?_)
    · have c_7_ := c_7
      refine lv_iconst (pc := 24) (v := iv 0) hx hb dX5_isSeen_24 rfl ?_
      refine c_zret (pc := 25) hC hQ hP hD hS (by decide) (by decide) dX5_isSeen_25 nz_0 ?_
      exact Or.inl (⟨hq1, rfl, rfl⟩)
    · exact absurd c_7 (by decide)
  · obtain ⟨hq1, hq2, hq3⟩ := hq
    rw [hq3] at hP hD
    rw [hq2]
    dsimp only [Option.toList, List.cons_append, List.nil_append]
    refine r_if_eq (pc := 7) (a := 0) hx hb dX5_isSeen_7 (tgt := 24) (by decide) ⟨by omega, by omega⟩ (fun c_7 => ?_) (fun c_7 => ?_)
    · have c_7_ := c_7
      refine lv_iconst (pc := 24) (v := iv 0) hx hb dX5_isSeen_24 rfl ?_
      refine c_zret (pc := 25) hC hQ hP hD hS (by decide) (by decide) dX5_isSeen_25 nz_0 ?_
      exact Or.inr (Or.inl (⟨hq1, rfl, rfl⟩))
    · exact absurd c_7 (by decide)
  · obtain ⟨hq1, hq2, hq3⟩ := hq
    rw [hq3] at hP hD
    rw [hq2]
    dsimp only [Option.toList, List.cons_append, List.nil_append]
    refine r_if_eq (pc := 7) (a := 1) hx hb dX5_isSeen_7 (tgt := 24) (by decide) ⟨by omega, by omega⟩ (fun c_7 => ?_) (fun c_7 => ?_)
    · exact absurd c_7 (by decide)
    · have c_7_ := c_7
      refine lv_aload_n (pc := 10) hx hb dX5_isSeen_10 rfl (lv_at hl 0 rfl) ?_
      refine lv_iload_n (pc := 11) hx hb dX5_isSeen_11 rfl (lv_at hl 1 rfl) ?_
      refine lv_iload_n (pc := 12) hx hb dX5_isSeen_12 rfl (lv_at hl 2 rfl) ?_
      refine lv_iload_n (pc := 13) hx hb dX5_isSeen_13 rfl (lv_at hl 3 rfl) ?_
      refine c_callV (pc := 14) (y := yX5_sees) (As := [.int (iv i), .int (iv x), .int (iv y)]) (rest := []) hC hE hP hD hS hl.1 (c_m_sees l ε m0 ad (va_up n 5 0) G R (i) (x) (y) ⟨by omega, by omega⟩ (hV.i (by omega) (by omega)) ⟨⟨by omega, by omega⟩, by omega, by omega⟩) m_17_17 m_17_18 m_17_19 m_0_5 m_17_20 wM_o rfl hd_yX5_sees rfl ⟨⟨by decide, by decide⟩, by decide, by decide⟩ (Nat.le_of_ble_eq_true rfl) rfl dX5_isSeen_14 kxN (fun v ws1 H locs hq hP hD hS => ?_)
      rw [hq.2] at hP hD
      rw [hq.1]
      dsimp only [Option.toList, List.cons_append, List.nil_append]
      refine r_if_b0 (pc := 17) (b := tb (SEES G i x y)) hx hb dX5_isSeen_17 (tgt := 24) (by decide)  (fun c_17 => ?_) (fun c_17 => ?_)
      · replace c_17 := tb_no c_17
        refine lv_iconst (pc := 24) (v := iv 0) hx hb dX5_isSeen_24 rfl ?_
        refine c_zret (pc := 25) hC hQ hP hD hS (by decide) (by decide) dX5_isSeen_25 nz_0 ?_
        exact Or.inr (Or.inr (⟨hq1, congrArg (fun z => some (Value.int z)) (bz_0 (tb_f c_17)), rfl⟩))
      · replace c_17 := tb_iff.mp c_17
        refine lv_iconst (pc := 20) (v := iv 1) hx hb dX5_isSeen_20 rfl ?_
        refine lv_goto (pc := 21) (tgt := 25) hx hb dX5_isSeen_21 (by decide) ?_
        refine c_zret (pc := 25) hC hQ hP hD hS (by decide) (by decide) dX5_isSeen_25 nz_1 ?_
        exact Or.inr (Or.inr (⟨hq1, congrArg (fun z => some (Value.int z)) (bz_1 (tb_t c_17)), rfl⟩))

abbrev rm_c_m_common : Room := { frames := 4, cells := 0, slots := 0, locals := 110 }
set_option maxRecDepth 100000 in
set_option maxHeartbeats 4000000 in
theorem c_m_common (l : Launch) (ε : EV) (m0 : Nat) (ad : Nat → Nat) (n : Nat → Int) (G : Nat → Nat → Int) (R : va_W) (i j : Int) (ri : rg i) (rj : rg j) (hV1 : VPat n G) (hV : VLam n G) : CT l yX5_common cX5_common 3 (some .int) rm_c_m_common ε [.ref m0, .int (iv i), .int (iv j)] (wM ε m0 ad n G ++ R) (fun v w => ((¬ ((0 ≤ i ∧ i < n 2) ∧ 0 ≤ j ∧ j < n 2)) ∧ v = some (.int (iv 0)) ∧ w = wM ε m0 ad (va_up n 5 1) G ++ R) ∨ (((0 ≤ i ∧ i < n 2) ∧ 0 ≤ j ∧ j < n 2) ∧ v = some (.int (iv (COMM G i j))) ∧ w = wM ε m0 ad (va_up n 5 0) G ++ R)) NX := by
  refine CT.intro (by decide +kernel) (Nat.le_of_ble_eq_true rfl) ?_
  intro p9 e9 s9 m9 a9 bl9 me9 c9 ls Q9 hC hE hP hD hl hQ
  have hx := hC.1
  have hb := hC.2.1
  have hK := hE.K
  have hS : WS ε s9.heap s9.heap [] := va_S.rf
  have hl : lv_has ls 3 [(0, .ref m0), (1, .int (iv i)), (2, .int (iv j))] := hl
  obtain ⟨H, hH⟩ : ∃ H, H = s9.heap := ⟨_, rfl⟩
  obtain ⟨locs, hlo⟩ : ∃ z : List Loc, z = [] := ⟨_, rfl⟩
  rw [← hH] at hP ⊢
  have hS : WS ε s9.heap H locs := by rw [hH, hlo]; exact hS
  rw [← hlo]
  clear hH hlo
  have hn1 := hV1.1
  have hn2 := hV.1
  refine lv_aload_n (pc := 0) hx hb dX5_common_0 rfl (lv_at hl 0 rfl) ?_
  refine lv_aload_n (pc := 1) hx hb dX5_common_1 rfl (lv_at hl 0 rfl) ?_
  refine lv_iload_n (pc := 2) hx hb dX5_common_2 rfl (lv_at hl 1 rfl) ?_
  refine c_callV (pc := 3) (y := yX5_isLamp) (As := [.int (iv i)]) (rest := [.ref m0]) hC hE hP hD hS hl.1 (c_m_isLamp l ε m0 ad n G R (i) ⟨by omega, by omega⟩ ⟨by omega, by omega⟩) m_14_18 m_14_19 m_14_20 m_0_5 m_14_21 wM_o rfl hd_yX5_isLamp rfl ⟨⟨by decide, by decide⟩, by decide, by decide⟩ (Nat.le_of_ble_eq_true rfl) rfl dX5_common_3 kxN (fun v ws1 H locs hq hP hD hS => ?_)
  rw [hq.2] at hP hD
  rw [hq.1]
  dsimp only [Option.toList, List.cons_append, List.nil_append]
  refine r_if_b0 (pc := 6) (b := decide (0 ≤ i ∧ i < n 2)) hx hb dX5_common_6 (tgt := 21) (by decide)  (fun c_6 => ?_) (fun c_6 => ?_)
  · replace c_6 := of_decide_eq_false c_6
    refine lv_iconst (pc := 21) (v := iv 1) hx hb dX5_common_21 rfl ?_
    refine m_put5 (pc := 22) (v := 1) hC hK hP hD hS m_3_4 dX5_common_22 (fun H locs hP hD hS => ?_)
    refine lv_aload_n (pc := 25) hx hb dX5_common_25 rfl (lv_at hl 0 rfl) ?_
    refine r_get (pc := 26) hC hK hP wM_o (hc := rfl) (fun w h => wt_1 w h) 19 (by decide) m_3_4 (fun _ h => h) (v := .int (iv 1)) rfl dX5_common_26 ?_
    refine r_if_le (pc := 29) (a := 1) hx hb dX5_common_29 (tgt := 36) (by decide) ⟨by omega, by omega⟩ (fun c_29 => ?_) (fun c_29 => ?_)
    · exact absurd c_29 (by decide)
    · have c_29_ := c_29
      refine lv_iconst (pc := 32) (v := iv 0) hx hb dX5_common_32 rfl ?_
      refine lv_goto (pc := 33) (tgt := 42) hx hb dX5_common_33 (by decide) ?_
      refine c_iret (pc := 42) hC hQ hP hD hS (by decide) (by decide) dX5_common_42 ?_
      exact Or.inl (⟨(by omega), rfl, rfl⟩)
  · replace c_6 := of_decide_eq_true c_6
    refine lv_aload_n (pc := 9) hx hb dX5_common_9 rfl (lv_at hl 0 rfl) ?_
    refine lv_iload_n (pc := 10) hx hb dX5_common_10 rfl (lv_at hl 2 rfl) ?_
    refine c_callV (pc := 11) (y := yX5_isLamp) (As := [.int (iv j)]) (rest := [.ref m0]) hC hE hP hD hS hl.1 (c_m_isLamp l ε m0 ad n G R (j) ⟨by omega, by omega⟩ ⟨by omega, by omega⟩) m_14_18 m_14_19 m_14_20 m_0_5 m_14_21 wM_o rfl hd_yX5_isLamp rfl ⟨⟨by decide, by decide⟩, by decide, by decide⟩ (Nat.le_of_ble_eq_true rfl) rfl dX5_common_11 kxN (fun v ws1 H locs hq hP hD hS => ?_)
    rw [hq.2] at hP hD
    rw [hq.1]
    dsimp only [Option.toList, List.cons_append, List.nil_append]
    refine r_if_b0 (pc := 14) (b := decide (0 ≤ j ∧ j < n 2)) hx hb dX5_common_14 (tgt := 21) (by decide)  (fun c_14 => ?_) (fun c_14 => ?_)
    · replace c_14 := of_decide_eq_false c_14
      refine lv_iconst (pc := 21) (v := iv 1) hx hb dX5_common_21 rfl ?_
      refine m_put5 (pc := 22) (v := 1) hC hK hP hD hS m_3_4 dX5_common_22 (fun H locs hP hD hS => ?_)
      refine lv_aload_n (pc := 25) hx hb dX5_common_25 rfl (lv_at hl 0 rfl) ?_
      refine r_get (pc := 26) hC hK hP wM_o (hc := rfl) (fun w h => wt_1 w h) 19 (by decide) m_3_4 (fun _ h => h) (v := .int (iv 1)) rfl dX5_common_26 ?_
      refine r_if_le (pc := 29) (a := 1) hx hb dX5_common_29 (tgt := 36) (by decide) ⟨by omega, by omega⟩ (fun c_29 => ?_) (fun c_29 => ?_)
      · exact absurd c_29 (by decide)
      · have c_29_ := c_29
        refine lv_iconst (pc := 32) (v := iv 0) hx hb dX5_common_32 rfl ?_
        refine lv_goto (pc := 33) (tgt := 42) hx hb dX5_common_33 (by decide) ?_
        refine c_iret (pc := 42) hC hQ hP hD hS (by decide) (by decide) dX5_common_42 ?_
        exact Or.inl (⟨(by omega), rfl, rfl⟩)
    · replace c_14 := of_decide_eq_true c_14
      refine lv_iconst (pc := 17) (v := iv 0) hx hb dX5_common_17 rfl ?_
      refine lv_goto (pc := 18) (tgt := 22) hx hb dX5_common_18 (by decide) ?_
      refine m_put5 (pc := 22) (v := 0) hC hK hP hD hS m_3_4 dX5_common_22 (fun H locs hP hD hS => ?_)
      refine lv_aload_n (pc := 25) hx hb dX5_common_25 rfl (lv_at hl 0 rfl) ?_
      refine r_get (pc := 26) hC hK hP wM_o (hc := rfl) (fun w h => wt_1 w h) 19 (by decide) m_3_4 (fun _ h => h) (v := .int (iv 0)) rfl dX5_common_26 ?_
      refine r_if_le (pc := 29) (a := 0) hx hb dX5_common_29 (tgt := 36) (by decide) ⟨by omega, by omega⟩ (fun c_29 => ?_) (fun c_29 => ?_)
      · have c_29_ := c_29
        refine lv_aload_n (pc := 36) hx hb dX5_common_36 rfl (lv_at hl 0 rfl) ?_
        refine lv_iload_n (pc := 37) hx hb dX5_common_37 rfl (lv_at hl 1 rfl) ?_
        refine lv_iload_n (pc := 38) hx hb dX5_common_38 rfl (lv_at hl 2 rfl) ?_
        refine c_callV (pc := 39) (y := yX5_both) (As := [.int (iv i), .int (iv j)]) (rest := []) hC hE hP hD hS hl.1 (c_m_both l ε m0 ad (va_up n 5 0) G R (i) (j) ⟨by omega, by omega⟩ (hV.i (by omega) (by omega)) ⟨by omega, by omega⟩ (hV.i (by omega) (by omega))) m_18_18 m_18_19 m_18_20 m_0_5 m_18_21 wM_o rfl hd_yX5_both rfl ⟨⟨by decide, by decide⟩, by decide, by decide⟩ (Nat.le_of_ble_eq_true rfl) rfl dX5_common_39 kxN (fun v ws1 H locs hq hP hD hS => ?_)
        rw [hq.2] at hP hD
        rw [hq.1]
        dsimp only [Option.toList, List.cons_append, List.nil_append]
        refine c_iret (pc := 42) hC hQ hP hD hS (by decide) (by decide) dX5_common_42 ?_
        exact Or.inr (⟨(by omega), rfl, rfl⟩)
      · exact absurd c_29 (by decide)

abbrev rm_c_m_asksAlike : Room := { frames := 4, cells := 0, slots := 0, locals := 110 }
set_option maxRecDepth 100000 in
set_option maxHeartbeats 4000000 in
theorem c_m_asksAlike (l : Launch) (ε : EV) (m0 : Nat) (ad : Nat → Nat) (n : Nat → Int) (G : Nat → Nat → Int) (R : va_W) (q r : Int) (rq : rg q) (rr : rg r) (hV1 : VPat n G) (hV : VLam n G) : CT l yX5_asksAlike cX5_asksAlike 3 (some .boolean) rm_c_m_asksAlike ε [.ref m0, .int (iv q), .int (iv r)] (wM ε m0 ad n G ++ R) (fun v w => ((¬ ((0 ≤ q ∧ q < n 1) ∧ 0 ≤ r ∧ r < n 1)) ∧ v = some (.int (iv 0)) ∧ w = wM ε m0 ad (va_up n 5 1) G ++ R) ∨ (((0 ≤ q ∧ q < n 1) ∧ 0 ≤ r ∧ r < n 1) ∧ v = some (.int (iv (bz (tb (AK (LQ G q) (LQ G r) (G 3 q.toNat) (G 3 r.toNat)))))) ∧ w = wM ε m0 ad (va_up n 5 0) G ++ R)) NX := by
  refine CT.intro (by decide +kernel) (Nat.le_of_ble_eq_true rfl) ?_
  intro p9 e9 s9 m9 a9 bl9 me9 c9 ls Q9 hC hE hP hD hl hQ
  have hx := hC.1
  have hb := hC.2.1
  have hK := hE.K
  have hS : WS ε s9.heap s9.heap [] := va_S.rf
  have hl : lv_has ls 3 [(0, .ref m0), (1, .int (iv q)), (2, .int (iv r))] := hl
  obtain ⟨H, hH⟩ : ∃ H, H = s9.heap := ⟨_, rfl⟩
  obtain ⟨locs, hlo⟩ : ∃ z : List Loc, z = [] := ⟨_, rfl⟩
  rw [← hH] at hP ⊢
  have hS : WS ε s9.heap H locs := by rw [hH, hlo]; exact hS
  rw [← hlo]
  clear hH hlo
  have hn1 := hV1.1
  have hn2 := hV.1
  refine lv_aload_n (pc := 0) hx hb dX5_asksAlike_0 rfl (lv_at hl 0 rfl) ?_
  refine lv_aload_n (pc := 1) hx hb dX5_asksAlike_1 rfl (lv_at hl 0 rfl) ?_
  refine lv_iload_n (pc := 2) hx hb dX5_asksAlike_2 rfl (lv_at hl 1 rfl) ?_
  refine c_callV (pc := 3) (y := yX5_isPattern) (As := [.int (iv q)]) (rest := [.ref m0]) hC hE hP hD hS hl.1 (c_m_isPattern l ε m0 ad n G R (q) ⟨by omega, by omega⟩ ⟨by omega, by omega⟩) m_8_22 m_8_23 m_8_24 m_0_5 m_9_0 wM_o rfl hd_yX5_isPattern rfl ⟨⟨by decide, by decide⟩, by decide, by decide⟩ (Nat.le_of_ble_eq_true rfl) rfl dX5_asksAlike_3 kxN (fun v ws1 H locs hq hP hD hS => ?_)
  rw [hq.2] at hP hD
  rw [hq.1]
  dsimp only [Option.toList, List.cons_append, List.nil_append]
  refine r_if_b0 (pc := 6) (b := decide (0 ≤ q ∧ q < n 1)) hx hb dX5_asksAlike_6 (tgt := 21) (by decide)  (fun c_6 => ?_) (fun c_6 => ?_)
  · replace c_6 := of_decide_eq_false c_6
    refine lv_iconst (pc := 21) (v := iv 1) hx hb dX5_asksAlike_21 rfl ?_
    refine m_put5 (pc := 22) (v := 1) hC hK hP hD hS m_3_4 dX5_asksAlike_22 (fun H locs hP hD hS => ?_)
    refine lv_aload_n (pc := 25) hx hb dX5_asksAlike_25 rfl (lv_at hl 0 rfl) ?_
    refine r_get (pc := 26) hC hK hP wM_o (hc := rfl) (fun w h => wt_1 w h) 19 (by decide) m_3_4 (fun _ h => h) (v := .int (iv 1)) rfl dX5_asksAlike_26 ?_
    refine r_if_ne (pc := 29) (a := 1) hx hb dX5_asksAlike_29 (tgt := 45) (by decide) ⟨by omega, by omega⟩ (fun c_29 => ?_) (fun c_29 => ?_)
    · have c_29_ := c_29
      refine lv_iconst (pc := 45) (v := iv 0) hx hb dX5_asksAlike_45 rfl ?_
      refine c_zret (pc := 46) hC hQ hP hD hS (by decide) (by decide) dX5_asksAlike_46 nz_0 ?_
      exact Or.inl (⟨(by omega), rfl, rfl⟩)
    · exact absurd c_29 (by decide)
  · replace c_6 := of_decide_eq_true c_6
    refine lv_aload_n (pc := 9) hx hb dX5_asksAlike_9 rfl (lv_at hl 0 rfl) ?_
    refine lv_iload_n (pc := 10) hx hb dX5_asksAlike_10 rfl (lv_at hl 2 rfl) ?_
    refine c_callV (pc := 11) (y := yX5_isPattern) (As := [.int (iv r)]) (rest := [.ref m0]) hC hE hP hD hS hl.1 (c_m_isPattern l ε m0 ad n G R (r) ⟨by omega, by omega⟩ ⟨by omega, by omega⟩) m_8_22 m_8_23 m_8_24 m_0_5 m_9_0 wM_o rfl hd_yX5_isPattern rfl ⟨⟨by decide, by decide⟩, by decide, by decide⟩ (Nat.le_of_ble_eq_true rfl) rfl dX5_asksAlike_11 kxN (fun v ws1 H locs hq hP hD hS => ?_)
    rw [hq.2] at hP hD
    rw [hq.1]
    dsimp only [Option.toList, List.cons_append, List.nil_append]
    refine r_if_b0 (pc := 14) (b := decide (0 ≤ r ∧ r < n 1)) hx hb dX5_asksAlike_14 (tgt := 21) (by decide)  (fun c_14 => ?_) (fun c_14 => ?_)
    · replace c_14 := of_decide_eq_false c_14
      refine lv_iconst (pc := 21) (v := iv 1) hx hb dX5_asksAlike_21 rfl ?_
      refine m_put5 (pc := 22) (v := 1) hC hK hP hD hS m_3_4 dX5_asksAlike_22 (fun H locs hP hD hS => ?_)
      refine lv_aload_n (pc := 25) hx hb dX5_asksAlike_25 rfl (lv_at hl 0 rfl) ?_
      refine r_get (pc := 26) hC hK hP wM_o (hc := rfl) (fun w h => wt_1 w h) 19 (by decide) m_3_4 (fun _ h => h) (v := .int (iv 1)) rfl dX5_asksAlike_26 ?_
      refine r_if_ne (pc := 29) (a := 1) hx hb dX5_asksAlike_29 (tgt := 45) (by decide) ⟨by omega, by omega⟩ (fun c_29 => ?_) (fun c_29 => ?_)
      · have c_29_ := c_29
        refine lv_iconst (pc := 45) (v := iv 0) hx hb dX5_asksAlike_45 rfl ?_
        refine c_zret (pc := 46) hC hQ hP hD hS (by decide) (by decide) dX5_asksAlike_46 nz_0 ?_
        exact Or.inl (⟨(by omega), rfl, rfl⟩)
      · exact absurd c_29 (by decide)
    · replace c_14 := of_decide_eq_true c_14
      refine lv_iconst (pc := 17) (v := iv 0) hx hb dX5_asksAlike_17 rfl ?_
      refine lv_goto (pc := 18) (tgt := 22) hx hb dX5_asksAlike_18 (by decide) ?_
      refine m_put5 (pc := 22) (v := 0) hC hK hP hD hS m_3_4 dX5_asksAlike_22 (fun H locs hP hD hS => ?_)
      refine lv_aload_n (pc := 25) hx hb dX5_asksAlike_25 rfl (lv_at hl 0 rfl) ?_
      refine r_get (pc := 26) hC hK hP wM_o (hc := rfl) (fun w h => wt_1 w h) 19 (by decide) m_3_4 (fun _ h => h) (v := .int (iv 0)) rfl dX5_asksAlike_26 ?_
      refine r_if_ne (pc := 29) (a := 0) hx hb dX5_asksAlike_29 (tgt := 45) (by decide) ⟨by omega, by omega⟩ (fun c_29 => ?_) (fun c_29 => ?_)
      · exact absurd c_29 (by decide)
      · have c_29_ := c_29
        refine lv_aload_n (pc := 32) hx hb dX5_asksAlike_32 rfl (lv_at hl 0 rfl) ?_
        refine lv_iload_n (pc := 33) hx hb dX5_asksAlike_33 rfl (lv_at hl 1 rfl) ?_
        refine lv_iload_n (pc := 34) hx hb dX5_asksAlike_34 rfl (lv_at hl 2 rfl) ?_
        refine c_callV (pc := 35) (y := yX5_alike) (As := [.int (iv q), .int (iv r)]) (rest := []) hC hE hP hD hS hl.1 (c_m_alike l ε m0 ad (va_up n 5 0) G R (q) (r) ⟨by omega, by omega⟩ (hV1.q (by omega) (by omega)) ⟨by omega, by omega⟩ (hV1.q (by omega) (by omega))) m_9_24 m_10_0 m_10_1 m_0_5 m_10_2 wM_o rfl hd_yX5_alike rfl ⟨⟨by decide, by decide⟩, by decide, by decide⟩ (Nat.le_of_ble_eq_true rfl) rfl dX5_asksAlike_35 kxN (fun v ws1 H locs hq hP hD hS => ?_)
        rw [hq.2] at hP hD
        rw [hq.1]
        dsimp only [Option.toList, List.cons_append, List.nil_append]
        refine r_if_b0 (pc := 38) (b := tb (AK (LQ G q) (LQ G r) (G 3 q.toNat) (G 3 r.toNat))) hx hb dX5_asksAlike_38 (tgt := 45) (by decide)  (fun c_38 => ?_) (fun c_38 => ?_)
        · replace c_38 := tb_no c_38
          refine lv_iconst (pc := 45) (v := iv 0) hx hb dX5_asksAlike_45 rfl ?_
          refine c_zret (pc := 46) hC hQ hP hD hS (by decide) (by decide) dX5_asksAlike_46 nz_0 ?_
          exact Or.inr (⟨(by omega), congrArg (fun z => some (Value.int z)) (bz_0 (tb_f c_38)), rfl⟩)
        · replace c_38 := tb_iff.mp c_38
          refine lv_iconst (pc := 41) (v := iv 1) hx hb dX5_asksAlike_41 rfl ?_
          refine lv_goto (pc := 42) (tgt := 46) hx hb dX5_asksAlike_42 (by decide) ?_
          refine c_zret (pc := 46) hC hQ hP hD hS (by decide) (by decide) dX5_asksAlike_46 nz_1 ?_
          exact Or.inr (⟨(by omega), congrArg (fun z => some (Value.int z)) (bz_1 (tb_t c_38)), rfl⟩)

abbrev rm_c_m_areAlike : Room := { frames := 5, cells := 0, slots := 0, locals := 140 }
set_option maxRecDepth 100000 in
set_option maxHeartbeats 4000000 in
theorem c_m_areAlike (l : Launch) (ε : EV) (m0 : Nat) (ad : Nat → Nat) (n : Nat → Int) (G : Nat → Nat → Int) (R : va_W) (q r : Int) (rq : rg q) (rr : rg r) (hV1 : VPat n G) (hV : VLam n G) : CT l yX5_areAlike cX5_areAlike 3 (some .boolean) rm_c_m_areAlike ε [.ref m0, .int (iv q), .int (iv r)] (wM ε m0 ad n G ++ R) (fun v w => ((¬ ((0 ≤ q ∧ q < n 1) ∧ 0 ≤ r ∧ r < n 1)) ∧ v = some (.int (iv 0)) ∧ w = wM ε m0 ad (va_up n 5 1) G ++ R) ∨ (((0 ≤ q ∧ q < n 1) ∧ 0 ≤ r ∧ r < n 1) ∧ v = some (.int (iv (bz (tb (AK (LQ G q) (LQ G r) (G 3 q.toNat) (G 3 r.toNat)))))) ∧ w = wM ε m0 ad (va_up n 5 0) G ++ R)) NX := by
  refine CT.intro (by decide +kernel) (Nat.le_of_ble_eq_true rfl) ?_
  intro p9 e9 s9 m9 a9 bl9 me9 c9 ls Q9 hC hE hP hD hl hQ
  have hx := hC.1
  have hb := hC.2.1
  have hK := hE.K
  have hS : WS ε s9.heap s9.heap [] := va_S.rf
  have hl : lv_has ls 3 [(0, .ref m0), (1, .int (iv q)), (2, .int (iv r))] := hl
  obtain ⟨H, hH⟩ : ∃ H, H = s9.heap := ⟨_, rfl⟩
  obtain ⟨locs, hlo⟩ : ∃ z : List Loc, z = [] := ⟨_, rfl⟩
  rw [← hH] at hP ⊢
  have hS : WS ε s9.heap H locs := by rw [hH, hlo]; exact hS
  rw [← hlo]
  clear hH hlo
  have hn1 := hV1.1
  have hn2 := hV.1
  refine lv_aload_n (pc := 0) hx hb dX5_areAlike_0 rfl (lv_at hl 0 rfl) ?_
  refine lv_iload_n (pc := 1) hx hb dX5_areAlike_1 rfl (lv_at hl 1 rfl) ?_
  refine lv_iload_n (pc := 2) hx hb dX5_areAlike_2 rfl (lv_at hl 2 rfl) ?_
  refine c_callV (pc := 3) (y := yX5_asksAlike) (As := [.int (iv q), .int (iv r)]) (rest := []) hC hE hP hD hS hl.1 (c_m_asksAlike l ε m0 ad n G R q r rq rr hV1 hV) m_9_20 m_9_21 m_9_22 m_0_5 m_9_23 wM_o rfl hd_yX5_asksAlike rfl ⟨⟨by decide, by decide⟩, by decide, by decide⟩ (Nat.le_of_ble_eq_true rfl) rfl dX5_areAlike_3 kxN (fun v ws1 H locs hq hP hD hS => ?_)
  rcases hq with hq | hq
  · obtain ⟨hq1, hq2, hq3⟩ := hq
    rw [hq3] at hP hD
    rw [hq2]
    dsimp only [Option.toList, List.cons_append, List.nil_append]
    refine c_zret (pc := 6) hC hQ hP hD hS (by decide) (by decide) dX5_areAlike_6 nz_0 ?_
    exact Or.inl (⟨hq1, rfl, rfl⟩)
  · obtain ⟨hq1, hq2, hq3⟩ := hq
    rw [hq3] at hP hD
    rw [hq2]
    dsimp only [Option.toList, List.cons_append, List.nil_append]
    refine c_zret (pc := 6) hC hQ hP hD hS (by decide) (by decide) dX5_areAlike_6 (nz_b _) ?_
    exact Or.inr (⟨hq1, rfl, rfl⟩)

abbrev rm_c_m_areAlikeBySeconds : Room := { frames := 5, cells := 0, slots := 0, locals := 140 }
set_option maxRecDepth 100000 in
set_option maxHeartbeats 4000000 in
theorem c_m_areAlikeBySeconds (l : Launch) (ε : EV) (m0 : Nat) (ad : Nat → Nat) (n : Nat → Int) (G : Nat → Nat → Int) (R : va_W) (q r : Int) (rq : rg q) (rr : rg r) (hV1 : VPat n G) (hV : VLam n G) : CT l yX5_areAlikeBySeconds cX5_areAlikeBySeconds 3 (some .boolean) rm_c_m_areAlikeBySeconds ε [.ref m0, .int (iv q), .int (iv r)] (wM ε m0 ad n G ++ R) (fun v w => ((¬ ((0 ≤ q ∧ q < n 1) ∧ 0 ≤ r ∧ r < n 1)) ∧ v = some (.int (iv 0)) ∧ w = wM ε m0 ad (va_up n 5 1) G ++ R) ∨ (((0 ≤ q ∧ q < n 1) ∧ 0 ≤ r ∧ r < n 1) ∧ v = some (.int (iv (bz (tb (AK (LQ G q) (LQ G r) (G 3 q.toNat) (G 3 r.toNat)))))) ∧ w = wM ε m0 ad (va_up n 5 0) G ++ R)) NX := by
  refine CT.intro (by decide +kernel) (Nat.le_of_ble_eq_true rfl) ?_
  intro p9 e9 s9 m9 a9 bl9 me9 c9 ls Q9 hC hE hP hD hl hQ
  have hx := hC.1
  have hb := hC.2.1
  have hK := hE.K
  have hS : WS ε s9.heap s9.heap [] := va_S.rf
  have hl : lv_has ls 3 [(0, .ref m0), (1, .int (iv q)), (2, .int (iv r))] := hl
  obtain ⟨H, hH⟩ : ∃ H, H = s9.heap := ⟨_, rfl⟩
  obtain ⟨locs, hlo⟩ : ∃ z : List Loc, z = [] := ⟨_, rfl⟩
  rw [← hH] at hP ⊢
  have hS : WS ε s9.heap H locs := by rw [hH, hlo]; exact hS
  rw [← hlo]
  clear hH hlo
  have hn1 := hV1.1
  have hn2 := hV.1
  refine lv_aload_n (pc := 0) hx hb dX5_areAlikeBySeconds_0 rfl (lv_at hl 0 rfl) ?_
  refine lv_iload_n (pc := 1) hx hb dX5_areAlikeBySeconds_1 rfl (lv_at hl 1 rfl) ?_
  refine lv_iload_n (pc := 2) hx hb dX5_areAlikeBySeconds_2 rfl (lv_at hl 2 rfl) ?_
  refine c_callV (pc := 3) (y := yX5_asksAlike) (As := [.int (iv q), .int (iv r)]) (rest := []) hC hE hP hD hS hl.1 (c_m_asksAlike l ε m0 ad n G R q r rq rr hV1 hV) m_9_20 m_9_21 m_9_22 m_0_5 m_9_23 wM_o rfl hd_yX5_asksAlike rfl ⟨⟨by decide, by decide⟩, by decide, by decide⟩ (Nat.le_of_ble_eq_true rfl) rfl dX5_areAlikeBySeconds_3 kxN (fun v ws1 H locs hq hP hD hS => ?_)
  rcases hq with hq | hq
  · obtain ⟨hq1, hq2, hq3⟩ := hq
    rw [hq3] at hP hD
    rw [hq2]
    dsimp only [Option.toList, List.cons_append, List.nil_append]
    refine c_zret (pc := 6) hC hQ hP hD hS (by decide) (by decide) dX5_areAlikeBySeconds_6 nz_0 ?_
    exact Or.inl (⟨hq1, rfl, rfl⟩)
  · obtain ⟨hq1, hq2, hq3⟩ := hq
    rw [hq3] at hP hD
    rw [hq2]
    dsimp only [Option.toList, List.cons_append, List.nil_append]
    refine c_zret (pc := 6) hC hQ hP hD hS (by decide) (by decide) dX5_areAlikeBySeconds_6 (nz_b _) ?_
    exact Or.inr (⟨hq1, rfl, rfl⟩)

abbrev rm_c_m_shines : Room := { frames := 4, cells := 0, slots := 0, locals := 110 }
set_option maxRecDepth 100000 in
set_option maxHeartbeats 4000000 in
theorem c_m_shines (l : Launch) (ε : EV) (m0 : Nat) (ad : Nat → Nat) (n : Nat → Int) (G : Nat → Nat → Int) (R : va_W) (i t : Int) (ri : rg i) (rt : rg t) (hV1 : VPat n G) (hV : VLam n G) : CT l yX5_shines cX5_shines 3 (some .boolean) rm_c_m_shines ε [.ref m0, .int (iv i), .int (iv t)] (wM ε m0 ad n G ++ R) (fun v w => ((¬ (0 ≤ i ∧ i < n 2)) ∧ v = some (.int (iv 0)) ∧ w = wM ε m0 ad (va_up n 5 1) G ++ R) ∨ (((0 ≤ i ∧ i < n 2) ∧ ¬ (0 ≤ t ∧ t ≤ 100000)) ∧ v = some (.int (iv 0)) ∧ w = wM ε m0 ad (va_up n 5 2) G ++ R) ∨ (((0 ≤ i ∧ i < n 2) ∧ (0 ≤ t ∧ t ≤ 100000)) ∧ v = some (.int (iv (bz (ON G i t)))) ∧ w = wM ε m0 ad (va_up n 5 0) G ++ R)) NX := by
  refine CT.intro (by decide +kernel) (Nat.le_of_ble_eq_true rfl) ?_
  intro p9 e9 s9 m9 a9 bl9 me9 c9 ls Q9 hC hE hP hD hl hQ
  have hx := hC.1
  have hb := hC.2.1
  have hK := hE.K
  have hS : WS ε s9.heap s9.heap [] := va_S.rf
  have hl : lv_has ls 3 [(0, .ref m0), (1, .int (iv i)), (2, .int (iv t))] := hl
  obtain ⟨H, hH⟩ : ∃ H, H = s9.heap := ⟨_, rfl⟩
  obtain ⟨locs, hlo⟩ : ∃ z : List Loc, z = [] := ⟨_, rfl⟩
  rw [← hH] at hP ⊢
  have hS : WS ε s9.heap H locs := by rw [hH, hlo]; exact hS
  rw [← hlo]
  clear hH hlo
  have hn1 := hV1.1
  have hn2 := hV.1
  refine lv_aload_n (pc := 0) hx hb dX5_shines_0 rfl (lv_at hl 0 rfl) ?_
  refine lv_aload_n (pc := 1) hx hb dX5_shines_1 rfl (lv_at hl 0 rfl) ?_
  refine lv_iload_n (pc := 2) hx hb dX5_shines_2 rfl (lv_at hl 1 rfl) ?_
  refine c_callV (pc := 3) (y := yX5_isLamp) (As := [.int (iv i)]) (rest := [.ref m0]) hC hE hP hD hS hl.1 (c_m_isLamp l ε m0 ad n G R (i) ⟨by omega, by omega⟩ ⟨by omega, by omega⟩) m_14_18 m_14_19 m_14_20 m_0_5 m_14_21 wM_o rfl hd_yX5_isLamp rfl ⟨⟨by decide, by decide⟩, by decide, by decide⟩ (Nat.le_of_ble_eq_true rfl) rfl dX5_shines_3 kxN (fun v ws1 H locs hq hP hD hS => ?_)
  rw [hq.2] at hP hD
  rw [hq.1]
  dsimp only [Option.toList, List.cons_append, List.nil_append]
  refine r_if_b1 (pc := 6) (b := decide (0 ≤ i ∧ i < n 2)) hx hb dX5_shines_6 (tgt := 13) (by decide)  (fun c_6 => ?_) (fun c_6 => ?_)
  · replace c_6 := of_decide_eq_true c_6
    refine lv_iload_n (pc := 13) hx hb dX5_shines_13 rfl (lv_at hl 2 rfl) ?_
    refine lv_iconst (pc := 14) (v := iv 0) hx hb dX5_shines_14 rfl ?_
    refine lv_ldc (pc := 15) (own := RX5) (v := iv 100000) hx hb hC.2.2.2.1 (by rw [show iv 100000 = (100000 : Int32) by decide]; exact hC.2.2.2.2.1 _ m_16_0) dX5_shines_15 ?_
    refine c_callS (pc := 17) (y := yX5_isIn) (As := [.int (iv t), .int (iv 0), .int (iv 100000)]) (rest := [.ref m0]) hC hE hP hD hS hl.1 (c_m_isIn l ε (wM ε m0 ad n G ++ R) (t) (0) (100000) ⟨by omega, by omega⟩ ⟨by omega, by omega⟩ ⟨by omega, by omega⟩) m_3_5 m_3_6 m_0_5 m_3_7 hd_yX5_isIn rfl ⟨⟨by decide, by decide⟩, by decide, by decide⟩ (Nat.le_of_ble_eq_true rfl) rfl dX5_shines_17 kxN (fun v ws1 H locs hq hP hD hS => ?_)
    rw [hq.2] at hP hD
    rw [hq.1]
    dsimp only [Option.toList, List.cons_append, List.nil_append]
    refine r_if_b0 (pc := 20) (b := decide (0 ≤ t ∧ t ≤ 100000)) hx hb dX5_shines_20 (tgt := 27) (by decide)  (fun c_20 => ?_) (fun c_20 => ?_)
    · replace c_20 := of_decide_eq_false c_20
      refine lv_iconst (pc := 27) (v := iv 2) hx hb dX5_shines_27 rfl ?_
      refine m_put5 (pc := 28) (v := 2) hC hK hP hD hS m_3_4 dX5_shines_28 (fun H locs hP hD hS => ?_)
      refine lv_aload_n (pc := 31) hx hb dX5_shines_31 rfl (lv_at hl 0 rfl) ?_
      refine r_get (pc := 32) hC hK hP wM_o (hc := rfl) (fun w h => wt_1 w h) 19 (by decide) m_3_4 (fun _ h => h) (v := .int (iv 2)) rfl dX5_shines_32 ?_
      refine r_if_ne (pc := 35) (a := 2) hx hb dX5_shines_35 (tgt := 51) (by decide) ⟨by omega, by omega⟩ (fun c_35 => ?_) (fun c_35 => ?_)
      · have c_35_ := c_35
        refine lv_iconst (pc := 51) (v := iv 0) hx hb dX5_shines_51 rfl ?_
        refine c_zret (pc := 52) hC hQ hP hD hS (by decide) (by decide) dX5_shines_52 nz_0 ?_
        exact Or.inr (Or.inl (⟨(by omega), rfl, rfl⟩))
      · exact absurd c_35 (by decide)
    · replace c_20 := of_decide_eq_true c_20
      refine lv_iconst (pc := 23) (v := iv 0) hx hb dX5_shines_23 rfl ?_
      refine lv_goto (pc := 24) (tgt := 28) hx hb dX5_shines_24 (by decide) ?_
      refine m_put5 (pc := 28) (v := 0) hC hK hP hD hS m_3_4 dX5_shines_28 (fun H locs hP hD hS => ?_)
      refine lv_aload_n (pc := 31) hx hb dX5_shines_31 rfl (lv_at hl 0 rfl) ?_
      refine r_get (pc := 32) hC hK hP wM_o (hc := rfl) (fun w h => wt_1 w h) 19 (by decide) m_3_4 (fun _ h => h) (v := .int (iv 0)) rfl dX5_shines_32 ?_
      refine r_if_ne (pc := 35) (a := 0) hx hb dX5_shines_35 (tgt := 51) (by decide) ⟨by omega, by omega⟩ (fun c_35 => ?_) (fun c_35 => ?_)
      · exact absurd c_35 (by decide)
      · have c_35_ := c_35
        have hlv := hV.i (q := i) (by omega) (by omega)
        refine lv_aload_n (pc := 38) hx hb dX5_shines_38 rfl (lv_at hl 0 rfl) ?_
        refine lv_iload_n (pc := 39) hx hb dX5_shines_39 rfl (lv_at hl 1 rfl) ?_
        refine lv_iload_n (pc := 40) hx hb dX5_shines_40 rfl (lv_at hl 2 rfl) ?_
        refine c_callV (pc := 41) (y := yX5_isOn) (As := [.int (iv i), .int (iv t)]) (rest := []) hC hE hP hD hS hl.1 (c_m_isOn l ε m0 ad (va_up n 5 0) G R (i) (t) ⟨by omega, by omega⟩ (hV.i (by omega) (by omega)) (hV1.q hlv.2.2.1.1 hlv.2.2.1.2) hn1.2 ⟨by omega, by omega⟩) m_16_1 m_16_2 m_16_3 m_0_5 m_16_4 wM_o rfl hd_yX5_isOn rfl ⟨⟨by decide, by decide⟩, by decide, by decide⟩ (Nat.le_of_ble_eq_true rfl) rfl dX5_shines_41 kxN (fun v ws1 H locs hq hP hD hS => ?_)
        rw [hq.2] at hP hD
        rw [hq.1]
        dsimp only [Option.toList, List.cons_append, List.nil_append]
        refine r_if_b0 (pc := 44) (b := ON G i t) hx hb dX5_shines_44 (tgt := 51) (by decide)  (fun c_44 => ?_) (fun c_44 => ?_)
        · have c_44_ := c_44
          refine lv_iconst (pc := 51) (v := iv 0) hx hb dX5_shines_51 rfl ?_
          refine c_zret (pc := 52) hC hQ hP hD hS (by decide) (by decide) dX5_shines_52 nz_0 ?_
          exact Or.inr (Or.inr (⟨(by omega), congrArg (fun z => some (Value.int z)) (bz_0 c_44), rfl⟩))
        · have c_44_ := c_44
          refine lv_iconst (pc := 47) (v := iv 1) hx hb dX5_shines_47 rfl ?_
          refine lv_goto (pc := 48) (tgt := 52) hx hb dX5_shines_48 (by decide) ?_
          refine c_zret (pc := 52) hC hQ hP hD hS (by decide) (by decide) dX5_shines_52 nz_1 ?_
          exact Or.inr (Or.inr (⟨(by omega), congrArg (fun z => some (Value.int z)) (bz_1 c_44), rfl⟩))
  · replace c_6 := of_decide_eq_false c_6
    refine lv_iconst (pc := 9) (v := iv 1) hx hb dX5_shines_9 rfl ?_
    refine lv_goto (pc := 10) (tgt := 28) hx hb dX5_shines_10 (by decide) ?_
    refine m_put5 (pc := 28) (v := 1) hC hK hP hD hS m_3_4 dX5_shines_28 (fun H locs hP hD hS => ?_)
    refine lv_aload_n (pc := 31) hx hb dX5_shines_31 rfl (lv_at hl 0 rfl) ?_
    refine r_get (pc := 32) hC hK hP wM_o (hc := rfl) (fun w h => wt_1 w h) 19 (by decide) m_3_4 (fun _ h => h) (v := .int (iv 1)) rfl dX5_shines_32 ?_
    refine r_if_ne (pc := 35) (a := 1) hx hb dX5_shines_35 (tgt := 51) (by decide) ⟨by omega, by omega⟩ (fun c_35 => ?_) (fun c_35 => ?_)
    · have c_35_ := c_35
      refine lv_iconst (pc := 51) (v := iv 0) hx hb dX5_shines_51 rfl ?_
      refine c_zret (pc := 52) hC hQ hP hD hS (by decide) (by decide) dX5_shines_52 nz_0 ?_
      exact Or.inl (⟨(by omega), rfl, rfl⟩)
    · exact absurd c_35 (by decide)

abbrev rm_c_m_thrown : Room := { frames := 0, cells := 0, slots := 0, locals := 0 }
set_option maxRecDepth 100000 in
set_option maxHeartbeats 4000000 in
theorem c_m_thrown (l : Launch) (ε : EV) (m0 : Nat) (ad : Nat → Nat) (n : Nat → Int) (G : Nat → Nat → Int) (R : va_W)  : CT l yX5_thrown cX5_thrown 1 (some .int) rm_c_m_thrown ε [.ref m0] (wM ε m0 ad n G ++ R) (fun v w => v = some (.int (iv (n 5))) ∧ w = wM ε m0 ad n G ++ R) NX := by
  refine CT.intro (by decide +kernel) (Nat.le_of_ble_eq_true rfl) ?_
  intro p9 e9 s9 m9 a9 bl9 me9 c9 ls Q9 hC hE hP hD hl hQ
  have hx := hC.1
  have hb := hC.2.1
  have hK := hE.K
  have hS : WS ε s9.heap s9.heap [] := va_S.rf
  have hl : lv_has ls 1 [(0, .ref m0)] := hl
  obtain ⟨H, hH⟩ : ∃ H, H = s9.heap := ⟨_, rfl⟩
  obtain ⟨locs, hlo⟩ : ∃ z : List Loc, z = [] := ⟨_, rfl⟩
  rw [← hH] at hP ⊢
  have hS : WS ε s9.heap H locs := by rw [hH, hlo]; exact hS
  rw [← hlo]
  clear hH hlo
  refine lv_aload_n (pc := 0) hx hb dX5_thrown_0 rfl (lv_at hl 0 rfl) ?_
  refine r_get (pc := 1) hC hK hP wM_o (hc := rfl) (fun w h => wt_1 w h) 19 (by decide) m_3_4 (fun _ h => h) (v := .int (iv (n 5))) rfl dX5_thrown_1 ?_
  refine c_iret (pc := 4) hC hQ hP hD hS (by decide) (by decide) dX5_thrown_4 ?_
  exact ⟨rfl, rfl⟩

abbrev rm_c_m_notices : Room := { frames := 0, cells := 0, slots := 0, locals := 0 }
set_option maxRecDepth 100000 in
set_option maxHeartbeats 4000000 in
theorem c_m_notices (l : Launch) (ε : EV) (m0 : Nat) (ad : Nat → Nat) (n : Nat → Int) (G : Nat → Nat → Int) (R : va_W)  : CT l yX5_notices cX5_notices 1 (some .int) rm_c_m_notices ε [.ref m0] (wM ε m0 ad n G ++ R) (fun v w => v = some (.int (iv (n 3))) ∧ w = wM ε m0 ad (va_up n 5 0) G ++ R) NX := by
  refine CT.intro (by decide +kernel) (Nat.le_of_ble_eq_true rfl) ?_
  intro p9 e9 s9 m9 a9 bl9 me9 c9 ls Q9 hC hE hP hD hl hQ
  have hx := hC.1
  have hb := hC.2.1
  have hK := hE.K
  have hS : WS ε s9.heap s9.heap [] := va_S.rf
  have hl : lv_has ls 1 [(0, .ref m0)] := hl
  obtain ⟨H, hH⟩ : ∃ H, H = s9.heap := ⟨_, rfl⟩
  obtain ⟨locs, hlo⟩ : ∃ z : List Loc, z = [] := ⟨_, rfl⟩
  rw [← hH] at hP ⊢
  have hS : WS ε s9.heap H locs := by rw [hH, hlo]; exact hS
  rw [← hlo]
  clear hH hlo
  refine lv_aload_n (pc := 0) hx hb dX5_notices_0 rfl (lv_at hl 0 rfl) ?_
  refine lv_iconst (pc := 1) (v := iv 0) hx hb dX5_notices_1 rfl ?_
  refine m_put5 (pc := 2) (v := 0) hC hK hP hD hS m_3_4 dX5_notices_2 (fun H locs hP hD hS => ?_)
  refine lv_aload_n (pc := 5) hx hb dX5_notices_5 rfl (lv_at hl 0 rfl) ?_
  refine r_get (pc := 6) hC hK hP wM_o (hc := rfl) (fun w h => wt_1 w h) 15 (by decide) m_14_5 (fun _ h => h) (v := .int (iv (n 3))) rfl dX5_notices_6 ?_
  refine c_iret (pc := 9) hC hQ hP hD hS (by decide) (by decide) dX5_notices_9 ?_
  exact ⟨rfl, rfl⟩

abbrev rm_c_m_period : Room := { frames := 3, cells := 0, slots := 0, locals := 80 }
set_option maxRecDepth 100000 in
set_option maxHeartbeats 4000000 in
theorem c_m_period (l : Launch) (ε : EV) (m0 : Nat) (ad : Nat → Nat) (n : Nat → Int) (G : Nat → Nat → Int) (R : va_W) (q : Int) (rq : rg q) (hV1 : VPat n G) (hV : VLam n G) : CT l yX5_period cX5_period 2 (some .int) rm_c_m_period ε [.ref m0, .int (iv q)] (wM ε m0 ad n G ++ R) (fun v w => ((¬ (0 ≤ q ∧ q < n 1)) ∧ v = some (.int (iv 0)) ∧ w = wM ε m0 ad (va_up n 5 1) G ++ R) ∨ ((0 ≤ q ∧ q < n 1) ∧ v = some (.int (iv (G 3 q.toNat))) ∧ w = wM ε m0 ad (va_up n 5 0) G ++ R)) NX := by
  refine CT.intro (by decide +kernel) (Nat.le_of_ble_eq_true rfl) ?_
  intro p9 e9 s9 m9 a9 bl9 me9 c9 ls Q9 hC hE hP hD hl hQ
  have hx := hC.1
  have hb := hC.2.1
  have hK := hE.K
  have hS : WS ε s9.heap s9.heap [] := va_S.rf
  have hl : lv_has ls 2 [(0, .ref m0), (1, .int (iv q))] := hl
  obtain ⟨H, hH⟩ : ∃ H, H = s9.heap := ⟨_, rfl⟩
  obtain ⟨locs, hlo⟩ : ∃ z : List Loc, z = [] := ⟨_, rfl⟩
  rw [← hH] at hP ⊢
  have hS : WS ε s9.heap H locs := by rw [hH, hlo]; exact hS
  rw [← hlo]
  clear hH hlo
  have hn1 := hV1.1
  have hn2 := hV.1
  refine lv_aload_n (pc := 0) hx hb dX5_period_0 rfl (lv_at hl 0 rfl) ?_
  refine lv_aload_n (pc := 1) hx hb dX5_period_1 rfl (lv_at hl 0 rfl) ?_
  refine lv_iload_n (pc := 2) hx hb dX5_period_2 rfl (lv_at hl 1 rfl) ?_
  refine c_callV (pc := 3) (y := yX5_isPattern) (As := [.int (iv q)]) (rest := [.ref m0]) hC hE hP hD hS hl.1 (c_m_isPattern l ε m0 ad n G R (q) ⟨by omega, by omega⟩ ⟨by omega, by omega⟩) m_8_22 m_8_23 m_8_24 m_0_5 m_9_0 wM_o rfl hd_yX5_isPattern rfl ⟨⟨by decide, by decide⟩, by decide, by decide⟩ (Nat.le_of_ble_eq_true rfl) rfl dX5_period_3 kxN (fun v ws1 H locs hq hP hD hS => ?_)
  rw [hq.2] at hP hD
  rw [hq.1]
  dsimp only [Option.toList, List.cons_append, List.nil_append]
  refine r_if_b0 (pc := 6) (b := decide (0 ≤ q ∧ q < n 1)) hx hb dX5_period_6 (tgt := 13) (by decide)  (fun c_6 => ?_) (fun c_6 => ?_)
  · replace c_6 := of_decide_eq_false c_6
    refine lv_iconst (pc := 13) (v := iv 1) hx hb dX5_period_13 rfl ?_
    refine m_put5 (pc := 14) (v := 1) hC hK hP hD hS m_3_4 dX5_period_14 (fun H locs hP hD hS => ?_)
    refine lv_aload_n (pc := 17) hx hb dX5_period_17 rfl (lv_at hl 0 rfl) ?_
    refine r_get (pc := 18) hC hK hP wM_o (hc := rfl) (fun w h => wt_1 w h) 19 (by decide) m_3_4 (fun _ h => h) (v := .int (iv 1)) rfl dX5_period_18 ?_
    refine r_if_le (pc := 21) (a := 1) hx hb dX5_period_21 (tgt := 28) (by decide) ⟨by omega, by omega⟩ (fun c_21 => ?_) (fun c_21 => ?_)
    · exact absurd c_21 (by decide)
    · have c_21_ := c_21
      refine lv_iconst (pc := 24) (v := iv 0) hx hb dX5_period_24 rfl ?_
      refine lv_goto (pc := 25) (tgt := 34) hx hb dX5_period_25 (by decide) ?_
      refine c_iret (pc := 34) hC hQ hP hD hS (by decide) (by decide) dX5_period_34 ?_
      exact Or.inl (⟨(by omega), rfl, rfl⟩)
  · replace c_6 := of_decide_eq_true c_6
    refine lv_iconst (pc := 9) (v := iv 0) hx hb dX5_period_9 rfl ?_
    refine lv_goto (pc := 10) (tgt := 14) hx hb dX5_period_10 (by decide) ?_
    refine m_put5 (pc := 14) (v := 0) hC hK hP hD hS m_3_4 dX5_period_14 (fun H locs hP hD hS => ?_)
    refine lv_aload_n (pc := 17) hx hb dX5_period_17 rfl (lv_at hl 0 rfl) ?_
    refine r_get (pc := 18) hC hK hP wM_o (hc := rfl) (fun w h => wt_1 w h) 19 (by decide) m_3_4 (fun _ h => h) (v := .int (iv 0)) rfl dX5_period_18 ?_
    refine r_if_le (pc := 21) (a := 0) hx hb dX5_period_21 (tgt := 28) (by decide) ⟨by omega, by omega⟩ (fun c_21 => ?_) (fun c_21 => ?_)
    · have c_21_ := c_21
      refine lv_aload_n (pc := 28) hx hb dX5_period_28 rfl (lv_at hl 0 rfl) ?_
      refine r_get (pc := 29) hC hK hP wM_o (hc := rfl) (fun w h => wt_1 w h) 5 (by decide) m_1_20 (fun _ h => h) (v := .ref (ad 3)) rfl dX5_period_29 ?_
      refine lv_iload_n (pc := 32) hx hb dX5_period_32 rfl (lv_at hl 1 rfl) ?_
      refine r_iald (pc := 33) (z := q) hC hK hP wM_3 ⟨by omega, by omega, by decide⟩ dX5_period_33 ?_
      refine c_iret (pc := 34) hC hQ hP hD hS (by decide) (by decide) dX5_period_34 ?_
      exact Or.inr (⟨(by omega), rfl, rfl⟩)
    · exact absurd c_21 (by decide)

abbrev rm_c_m_behind : Room := { frames := 3, cells := 0, slots := 0, locals := 80 }
set_option maxRecDepth 100000 in
set_option maxHeartbeats 4000000 in
theorem c_m_behind (l : Launch) (ε : EV) (m0 : Nat) (ad : Nat → Nat) (n : Nat → Int) (G : Nat → Nat → Int) (R : va_W) (ch : Int) (rc : rg ch) (hV1 : VPat n G) (hV : VLam n G) (hV4 : 0 ≤ n 4 ∧ n 4 ≤ 10) : CT l yX5_behind cX5_behind 2 (some .int) rm_c_m_behind ε [.ref m0, .int (iv ch)] (wM ε m0 ad n G ++ R) (fun v w => ((¬ (0 ≤ ch ∧ ch < n 4)) ∧ v = some (.int (iv 0)) ∧ w = wM ε m0 ad (va_up n 5 1) G ++ R) ∨ ((0 ≤ ch ∧ ch < n 4) ∧ v = some (.int (iv (n 3 - G 12 ch.toNat))) ∧ w = wM ε m0 ad (va_up n 5 0) G ++ R)) NX := by
  refine CT.intro (by decide +kernel) (Nat.le_of_ble_eq_true rfl) ?_
  intro p9 e9 s9 m9 a9 bl9 me9 c9 ls Q9 hC hE hP hD hl hQ
  have hx := hC.1
  have hb := hC.2.1
  have hK := hE.K
  have hS : WS ε s9.heap s9.heap [] := va_S.rf
  have hl : lv_has ls 2 [(0, .ref m0), (1, .int (iv ch))] := hl
  obtain ⟨H, hH⟩ : ∃ H, H = s9.heap := ⟨_, rfl⟩
  obtain ⟨locs, hlo⟩ : ∃ z : List Loc, z = [] := ⟨_, rfl⟩
  rw [← hH] at hP ⊢
  have hS : WS ε s9.heap H locs := by rw [hH, hlo]; exact hS
  rw [← hlo]
  clear hH hlo
  have hn1 := hV1.1
  have hn2 := hV.1
  refine lv_aload_n (pc := 0) hx hb dX5_behind_0 rfl (lv_at hl 0 rfl) ?_
  refine lv_aload_n (pc := 1) hx hb dX5_behind_1 rfl (lv_at hl 0 rfl) ?_
  refine lv_iload_n (pc := 2) hx hb dX5_behind_2 rfl (lv_at hl 1 rfl) ?_
  refine c_callV (pc := 3) (y := yX5_isChart) (As := [.int (iv ch)]) (rest := [.ref m0]) hC hE hP hD hS hl.1 (c_m_isChart l ε m0 ad n G R (ch) ⟨by omega, by omega⟩ ⟨by omega, by omega⟩) m_22_3 m_22_4 m_22_5 m_0_5 m_22_6 wM_o rfl hd_yX5_isChart rfl ⟨⟨by decide, by decide⟩, by decide, by decide⟩ (Nat.le_of_ble_eq_true rfl) rfl dX5_behind_3 kxN (fun v ws1 H locs hq hP hD hS => ?_)
  rw [hq.2] at hP hD
  rw [hq.1]
  dsimp only [Option.toList, List.cons_append, List.nil_append]
  refine r_if_b0 (pc := 6) (b := decide (0 ≤ ch ∧ ch < n 4)) hx hb dX5_behind_6 (tgt := 13) (by decide)  (fun c_6 => ?_) (fun c_6 => ?_)
  · replace c_6 := of_decide_eq_false c_6
    refine lv_iconst (pc := 13) (v := iv 1) hx hb dX5_behind_13 rfl ?_
    refine m_put5 (pc := 14) (v := 1) hC hK hP hD hS m_3_4 dX5_behind_14 (fun H locs hP hD hS => ?_)
    refine lv_aload_n (pc := 17) hx hb dX5_behind_17 rfl (lv_at hl 0 rfl) ?_
    refine r_get (pc := 18) hC hK hP wM_o (hc := rfl) (fun w h => wt_1 w h) 19 (by decide) m_3_4 (fun _ h => h) (v := .int (iv 1)) rfl dX5_behind_18 ?_
    refine r_if_le (pc := 21) (a := 1) hx hb dX5_behind_21 (tgt := 28) (by decide) ⟨by omega, by omega⟩ (fun c_21 => ?_) (fun c_21 => ?_)
    · exact absurd c_21 (by decide)
    · have c_21_ := c_21
      refine lv_iconst (pc := 24) (v := iv 0) hx hb dX5_behind_24 rfl ?_
      refine lv_goto (pc := 25) (tgt := 39) hx hb dX5_behind_25 (by decide) ?_
      refine c_iret (pc := 39) hC hQ hP hD hS (by decide) (by decide) dX5_behind_39 ?_
      exact Or.inl (⟨(by omega), rfl, rfl⟩)
  · replace c_6 := of_decide_eq_true c_6
    refine lv_iconst (pc := 9) (v := iv 0) hx hb dX5_behind_9 rfl ?_
    refine lv_goto (pc := 10) (tgt := 14) hx hb dX5_behind_10 (by decide) ?_
    refine m_put5 (pc := 14) (v := 0) hC hK hP hD hS m_3_4 dX5_behind_14 (fun H locs hP hD hS => ?_)
    refine lv_aload_n (pc := 17) hx hb dX5_behind_17 rfl (lv_at hl 0 rfl) ?_
    refine r_get (pc := 18) hC hK hP wM_o (hc := rfl) (fun w h => wt_1 w h) 19 (by decide) m_3_4 (fun _ h => h) (v := .int (iv 0)) rfl dX5_behind_18 ?_
    refine r_if_le (pc := 21) (a := 0) hx hb dX5_behind_21 (tgt := 28) (by decide) ⟨by omega, by omega⟩ (fun c_21 => ?_) (fun c_21 => ?_)
    · have c_21_ := c_21
      refine lv_aload_n (pc := 28) hx hb dX5_behind_28 rfl (lv_at hl 0 rfl) ?_
      refine r_get (pc := 29) hC hK hP wM_o (hc := rfl) (fun w h => wt_1 w h) 15 (by decide) m_14_5 (fun _ h => h) (v := .int (iv (n 3))) rfl dX5_behind_29 ?_
      refine lv_aload_n (pc := 32) hx hb dX5_behind_32 rfl (lv_at hl 0 rfl) ?_
      refine r_get (pc := 33) hC hK hP wM_o (hc := rfl) (fun w h => wt_1 w h) 17 (by decide) m_2_5 (fun _ h => h) (v := .ref (ad 12)) rfl dX5_behind_33 ?_
      refine lv_iload_n (pc := 36) hx hb dX5_behind_36 rfl (lv_at hl 1 rfl) ?_
      refine r_iald (pc := 37) (z := ch) hC hK hP wM_12 ⟨by omega, by omega, by decide⟩ dX5_behind_37 ?_
      refine r_isub (pc := 38) (a := n 3) (b := G 12 ch.toNat) hx hb dX5_behind_38 ?_
      refine c_iret (pc := 39) hC hQ hP hD hS (by decide) (by decide) dX5_behind_39 ?_
      exact Or.inr (⟨(by omega), rfl, rfl⟩)
    · exact absurd c_21 (by decide)

abbrev rm_c_m_shown : Room := { frames := 3, cells := 0, slots := 0, locals := 80 }
set_option maxRecDepth 100000 in
set_option maxHeartbeats 4000000 in
theorem c_m_shown (l : Launch) (ε : EV) (m0 : Nat) (ad : Nat → Nat) (n : Nat → Int) (G : Nat → Nat → Int) (R : va_W) (ch i : Int) (rc : rg ch) (ri : rg i) (hV1 : VPat n G) (hV : VLam n G) (hV4 : 0 ≤ n 4 ∧ n 4 ≤ 10) : CT l yX5_shown cX5_shown 3 (some .int) rm_c_m_shown ε [.ref m0, .int (iv ch), .int (iv i)] (wM ε m0 ad n G ++ R) (fun v w => ((¬ ((0 ≤ ch ∧ ch < n 4) ∧ 0 ≤ i ∧ i < n 2)) ∧ v = some (.int (iv 0)) ∧ w = wM ε m0 ad (va_up n 5 1) G ++ R) ∨ (((0 ≤ ch ∧ ch < n 4) ∧ 0 ≤ i ∧ i < n 2) ∧ v = some (.int (iv (G 13 (12 * ch + i).toNat))) ∧ w = wM ε m0 ad (va_up n 5 0) G ++ R)) NX := by
  refine CT.intro (by decide +kernel) (Nat.le_of_ble_eq_true rfl) ?_
  intro p9 e9 s9 m9 a9 bl9 me9 c9 ls Q9 hC hE hP hD hl hQ
  have hx := hC.1
  have hb := hC.2.1
  have hK := hE.K
  have hS : WS ε s9.heap s9.heap [] := va_S.rf
  have hl : lv_has ls 3 [(0, .ref m0), (1, .int (iv ch)), (2, .int (iv i))] := hl
  obtain ⟨H, hH⟩ : ∃ H, H = s9.heap := ⟨_, rfl⟩
  obtain ⟨locs, hlo⟩ : ∃ z : List Loc, z = [] := ⟨_, rfl⟩
  rw [← hH] at hP ⊢
  have hS : WS ε s9.heap H locs := by rw [hH, hlo]; exact hS
  rw [← hlo]
  clear hH hlo
  have hn1 := hV1.1
  have hn2 := hV.1
  refine lv_aload_n (pc := 0) hx hb dX5_shown_0 rfl (lv_at hl 0 rfl) ?_
  refine lv_aload_n (pc := 1) hx hb dX5_shown_1 rfl (lv_at hl 0 rfl) ?_
  refine lv_iload_n (pc := 2) hx hb dX5_shown_2 rfl (lv_at hl 1 rfl) ?_
  refine c_callV (pc := 3) (y := yX5_isChart) (As := [.int (iv ch)]) (rest := [.ref m0]) hC hE hP hD hS hl.1 (c_m_isChart l ε m0 ad n G R (ch) ⟨by omega, by omega⟩ ⟨by omega, by omega⟩) m_22_3 m_22_4 m_22_5 m_0_5 m_22_6 wM_o rfl hd_yX5_isChart rfl ⟨⟨by decide, by decide⟩, by decide, by decide⟩ (Nat.le_of_ble_eq_true rfl) rfl dX5_shown_3 kxN (fun v ws1 H locs hq hP hD hS => ?_)
  rw [hq.2] at hP hD
  rw [hq.1]
  dsimp only [Option.toList, List.cons_append, List.nil_append]
  refine r_if_b0 (pc := 6) (b := decide (0 ≤ ch ∧ ch < n 4)) hx hb dX5_shown_6 (tgt := 21) (by decide)  (fun c_6 => ?_) (fun c_6 => ?_)
  · replace c_6 := of_decide_eq_false c_6
    refine lv_iconst (pc := 21) (v := iv 1) hx hb dX5_shown_21 rfl ?_
    refine m_put5 (pc := 22) (v := 1) hC hK hP hD hS m_3_4 dX5_shown_22 (fun H locs hP hD hS => ?_)
    refine lv_aload_n (pc := 25) hx hb dX5_shown_25 rfl (lv_at hl 0 rfl) ?_
    refine r_get (pc := 26) hC hK hP wM_o (hc := rfl) (fun w h => wt_1 w h) 19 (by decide) m_3_4 (fun _ h => h) (v := .int (iv 1)) rfl dX5_shown_26 ?_
    refine r_if_le (pc := 29) (a := 1) hx hb dX5_shown_29 (tgt := 36) (by decide) ⟨by omega, by omega⟩ (fun c_29 => ?_) (fun c_29 => ?_)
    · exact absurd c_29 (by decide)
    · have c_29_ := c_29
      refine lv_iconst (pc := 32) (v := iv 0) hx hb dX5_shown_32 rfl ?_
      refine lv_goto (pc := 33) (tgt := 47) hx hb dX5_shown_33 (by decide) ?_
      refine c_iret (pc := 47) hC hQ hP hD hS (by decide) (by decide) dX5_shown_47 ?_
      exact Or.inl (⟨(by omega), rfl, rfl⟩)
  · replace c_6 := of_decide_eq_true c_6
    refine lv_aload_n (pc := 9) hx hb dX5_shown_9 rfl (lv_at hl 0 rfl) ?_
    refine lv_iload_n (pc := 10) hx hb dX5_shown_10 rfl (lv_at hl 2 rfl) ?_
    refine c_callV (pc := 11) (y := yX5_isLamp) (As := [.int (iv i)]) (rest := [.ref m0]) hC hE hP hD hS hl.1 (c_m_isLamp l ε m0 ad n G R (i) ⟨by omega, by omega⟩ ⟨by omega, by omega⟩) m_14_18 m_14_19 m_14_20 m_0_5 m_14_21 wM_o rfl hd_yX5_isLamp rfl ⟨⟨by decide, by decide⟩, by decide, by decide⟩ (Nat.le_of_ble_eq_true rfl) rfl dX5_shown_11 kxN (fun v ws1 H locs hq hP hD hS => ?_)
    rw [hq.2] at hP hD
    rw [hq.1]
    dsimp only [Option.toList, List.cons_append, List.nil_append]
    refine r_if_b0 (pc := 14) (b := decide (0 ≤ i ∧ i < n 2)) hx hb dX5_shown_14 (tgt := 21) (by decide)  (fun c_14 => ?_) (fun c_14 => ?_)
    · replace c_14 := of_decide_eq_false c_14
      refine lv_iconst (pc := 21) (v := iv 1) hx hb dX5_shown_21 rfl ?_
      refine m_put5 (pc := 22) (v := 1) hC hK hP hD hS m_3_4 dX5_shown_22 (fun H locs hP hD hS => ?_)
      refine lv_aload_n (pc := 25) hx hb dX5_shown_25 rfl (lv_at hl 0 rfl) ?_
      refine r_get (pc := 26) hC hK hP wM_o (hc := rfl) (fun w h => wt_1 w h) 19 (by decide) m_3_4 (fun _ h => h) (v := .int (iv 1)) rfl dX5_shown_26 ?_
      refine r_if_le (pc := 29) (a := 1) hx hb dX5_shown_29 (tgt := 36) (by decide) ⟨by omega, by omega⟩ (fun c_29 => ?_) (fun c_29 => ?_)
      · exact absurd c_29 (by decide)
      · have c_29_ := c_29
        refine lv_iconst (pc := 32) (v := iv 0) hx hb dX5_shown_32 rfl ?_
        refine lv_goto (pc := 33) (tgt := 47) hx hb dX5_shown_33 (by decide) ?_
        refine c_iret (pc := 47) hC hQ hP hD hS (by decide) (by decide) dX5_shown_47 ?_
        exact Or.inl (⟨(by omega), rfl, rfl⟩)
    · replace c_14 := of_decide_eq_true c_14
      refine lv_iconst (pc := 17) (v := iv 0) hx hb dX5_shown_17 rfl ?_
      refine lv_goto (pc := 18) (tgt := 22) hx hb dX5_shown_18 (by decide) ?_
      refine m_put5 (pc := 22) (v := 0) hC hK hP hD hS m_3_4 dX5_shown_22 (fun H locs hP hD hS => ?_)
      refine lv_aload_n (pc := 25) hx hb dX5_shown_25 rfl (lv_at hl 0 rfl) ?_
      refine r_get (pc := 26) hC hK hP wM_o (hc := rfl) (fun w h => wt_1 w h) 19 (by decide) m_3_4 (fun _ h => h) (v := .int (iv 0)) rfl dX5_shown_26 ?_
      refine r_if_le (pc := 29) (a := 0) hx hb dX5_shown_29 (tgt := 36) (by decide) ⟨by omega, by omega⟩ (fun c_29 => ?_) (fun c_29 => ?_)
      · have c_29_ := c_29
        refine lv_aload_n (pc := 36) hx hb dX5_shown_36 rfl (lv_at hl 0 rfl) ?_
        refine r_get (pc := 37) hC hK hP wM_o (hc := rfl) (fun w h => wt_1 w h) 18 (by decide) m_2_6 (fun _ h => h) (v := .ref (ad 13)) rfl dX5_shown_37 ?_
        refine lv_bipush (pc := 40) (v := iv 12) hx hb dX5_shown_40 (by decide) ?_
        refine lv_iload_n (pc := 42) hx hb dX5_shown_42 rfl (lv_at hl 1 rfl) ?_
        refine r_imul (pc := 43) (a := 12) (b := ch) hx hb dX5_shown_43 ?_
        refine lv_iload_n (pc := 44) hx hb dX5_shown_44 rfl (lv_at hl 2 rfl) ?_
        refine r_iadd (pc := 45) (a := 12 * ch) (b := i) hx hb dX5_shown_45 ?_
        refine r_iald (pc := 46) (z := (12 * ch) + i) hC hK hP wM_13 ⟨by omega, by omega, by decide⟩ dX5_shown_46 ?_
        refine c_iret (pc := 47) hC hQ hP hD hS (by decide) (by decide) dX5_shown_47 ?_
        exact Or.inr (⟨(by omega), rfl, rfl⟩)
      · exact absurd c_29 (by decide)
