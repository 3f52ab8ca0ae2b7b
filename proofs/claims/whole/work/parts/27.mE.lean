abbrev rm_c_m_clashes : Room := { frames := 4, cells := 0, slots := 0, locals := 130 }
set_option maxRecDepth 100000 in
set_option maxHeartbeats 4000000 in
theorem c_m_clashes (l : Launch) (ε : EV) (m0 : Nat) (ad : Nat → Nat) (n : Nat → Int) (G : Nat → Nat → Int) (R : va_W) (hV1 : VPat n G) (hV : VLam n G) : CT l yX5_clashes cX5_clashes 4 (some .int) rm_c_m_clashes ε [.ref m0] (wM ε m0 ad n G ++ R) (fun v w => v = some (.int (iv (CLS (CLASH G) (n 2).toNat))) ∧ w = wM ε m0 ad (va_up n 5 0) G ++ R) NX := by
  refine CT.intro (by decide +kernel) (Nat.le_of_ble_eq_true rfl) ?_
  intro p9 e9 s9 m9 a9 bl9 me9 c9 ls Q9 hC hE hP hD hl hQ
  have hx := hC.1
  have hb := hC.2.1
  have hK := hE.K
  have hS : WS ε s9.heap s9.heap [] := va_S.rf
  have hl : lv_has ls 4 [(0, .ref m0)] := hl
  obtain ⟨H, hH⟩ : ∃ H, H = s9.heap := ⟨_, rfl⟩
  obtain ⟨locs, hlo⟩ : ∃ z : List Loc, z = [] := ⟨_, rfl⟩
  rw [← hH] at hP ⊢
  have hS : WS ε s9.heap H locs := by rw [hH, hlo]; exact hS
  rw [← hlo]
  clear hH hlo
  have hn1 := hV1.1
  have hn2 := hV.1
  refine lv_aload_n (pc := 0) hx hb dX5_clashes_0 rfl (lv_at hl 0 rfl) ?_
  refine lv_iconst (pc := 1) (v := iv 0) hx hb dX5_clashes_1 rfl ?_
  refine m_put5 (pc := 2) (v := 0) hC hK hP hD hS m_3_4 dX5_clashes_2 (fun H locs hP hD hS => ?_)
  refine lv_iconst (pc := 5) (v := iv 0) hx hb dX5_clashes_5 rfl ?_
  refine lv_istore_n (lv' := [(1, .int (iv 0)), (0, .ref m0)]) (pc := 6) hx hb dX5_clashes_6 rfl hl (by decide) rfl (fun ls hl => ?_)
  refine lv_iconst (pc := 7) (v := iv 0) hx hb dX5_clashes_7 rfl ?_
  refine lv_istore_n (lv' := [(2, .int (iv 0)), (1, .int (iv 0)), (0, .ref m0)]) (pc := 8) hx hb dX5_clashes_8 rfl hl (by decide) rfl (fun ls hl => ?_)
  have lp_9 : ∀ (k9 : Nat) (nn : Int) (k : Int) (hk : 0 ≤ k ∧ k ≤ n 2) (hn : nn = CLS (CLASH G) k.toNat) , ((n 2 - k).toNat) < k9 → ∀ (H : Heap) (locs : List Loc) (ls : Array Slot), WP ε (wM ε m0 ad (va_up n 5 0) G ++ R) H → WD ε (wM ε m0 ad (va_up n 5 0) G ++ R) → WS ε s9.heap H locs → lv_has ls 4 [(0, .ref m0), (1, .int (iv nn)), (2, .int (iv k))] → W p9 l e9 rm_c_m_clashes s9 m9 a9 bl9 me9 c9 H locs 0 0 Q9 (F0 m9 9 ls []) := by
    intro k9
    induction k9 with
    | zero => intro nn k hk hn h9; exact absurd h9 (Nat.not_lt_zero _)
    | succ k9 ih_9 =>
      intro nn k hk hn h9 H locs ls hP hD hS hl
      refine lv_iload_n (pc := 9) hx hb dX5_clashes_9 rfl (lv_at hl 2 rfl) ?_
      refine lv_aload_n (pc := 10) hx hb dX5_clashes_10 rfl (lv_at hl 0 rfl) ?_
      refine r_get (pc := 11) hC hK hP wM_o (hc := rfl) (fun w h => wt_1 w h) 6 (by decide) m_13_22 (fun _ h => h) (v := .int (iv (n 2))) rfl dX5_clashes_11 ?_
      refine r_icmp_ge (pc := 14) (a := k) (b := n 2) hx hb dX5_clashes_14 (tgt := 72) (by decide) ⟨by omega, by omega⟩ ⟨by omega, by omega⟩ (fun c_14 => ?_) (fun c_14 => ?_)
      · have c_14_ := c_14
        have hres : nn = CLS (CLASH G) (n 2).toNat := by rw [hn, show k.toNat = (n 2).toNat by omega]
        refine lv_iload_n (pc := 72) hx hb dX5_clashes_72 rfl (lv_at hl 1 rfl) ?_
        refine c_iret (pc := 73) hC hQ hP hD hS (by decide) (by decide) dX5_clashes_73 ?_
        exact ⟨congrArg (fun z => some (Value.int (iv z))) hres, rfl⟩
      · have c_14_ := c_14
        refine lv_iconst (pc := 17) (v := iv 0) hx hb dX5_clashes_17 rfl ?_
        refine lv_istore_n (lv' := [(3, .int (iv 0)), (0, .ref m0), (1, .int (iv nn)), (2, .int (iv k))]) (pc := 18) hx hb dX5_clashes_18 rfl hl (by decide) rfl (fun ls hl => ?_)
        have lp_19 : ∀ (k9 : Nat) (nn : Int) (j : Int) (hj : 0 ≤ j ∧ j ≤ k) (hn2 : nn = CLS (CLASH G) k.toNat + CNT (CLASH G k) j.toNat) , ((k - j).toNat) < k9 → ∀ (H : Heap) (locs : List Loc) (ls : Array Slot), WP ε (wM ε m0 ad (va_up n 5 0) G ++ R) H → WD ε (wM ε m0 ad (va_up n 5 0) G ++ R) → WS ε s9.heap H locs → lv_has ls 4 [(0, .ref m0), (1, .int (iv nn)), (2, .int (iv k)), (3, .int (iv j))] → W p9 l e9 rm_c_m_clashes s9 m9 a9 bl9 me9 c9 H locs 0 0 Q9 (F0 m9 19 ls []) := by
          intro k9
          induction k9 with
          | zero => intro nn j hj hn2 h9; exact absurd h9 (Nat.not_lt_zero _)
          | succ k9 ih_19 =>
            intro nn j hj hn2 h9 H locs ls hP hD hS hl
            refine lv_iload_n (pc := 19) hx hb dX5_clashes_19 rfl (lv_at hl 3 rfl) ?_
            refine lv_iload_n (pc := 20) hx hb dX5_clashes_20 rfl (lv_at hl 2 rfl) ?_
            refine r_icmp_ge (pc := 21) (a := j) (b := k) hx hb dX5_clashes_21 (tgt := 66) (by decide) ⟨by omega, by omega⟩ ⟨by omega, by omega⟩ (fun c_21 => ?_) (fun c_21 => ?_)
            · have c_21_ := c_21
              refine lv_iinc (v := iv (k + 1)) (lv' := [(2, .int (iv (k + 1))), (0, .ref m0), (1, .int (iv nn)), (3, .int (iv j))]) (pc := 66) hx hb dX5_clashes_66 hl (k := 2) rfl (iv_add _ _) (by decide) rfl (fun ls hl => ?_)
              refine lv_goto (pc := 69) (tgt := 9) hx hb dX5_clashes_69 (by decide) ?_
              exact ih_9 nn (k + 1) (by omega) (by rw [CLS.succ hk.1, hn2, show j.toNat = k.toNat by omega]) (by omega) _ _ _ hP hD hS (lv_sub hl [1, 2, 0] rfl)
            · have c_21_ := c_21
              have hlk := hV.i (q := k) (by omega) (by omega)
              have hlj := hV.i (q := j) (by omega) (by omega)
              have hk6 := hlk.2.2.1
              have hj6 := hlj.2.2.1
              refine lv_iload_n (pc := 24) hx hb dX5_clashes_24 rfl (lv_at hl 1 rfl) ?_
              refine lv_aload_n (pc := 25) hx hb dX5_clashes_25 rfl (lv_at hl 0 rfl) ?_
              refine lv_aload_n (pc := 26) hx hb dX5_clashes_26 rfl (lv_at hl 0 rfl) ?_
              refine r_get (pc := 27) hC hK hP wM_o (hc := rfl) (fun w h => wt_1 w h) 9 (by decide) m_1_23 (fun _ h => h) (v := .ref (ad 6)) rfl dX5_clashes_27 ?_
              refine lv_iload_n (pc := 30) hx hb dX5_clashes_30 rfl (lv_at hl 2 rfl) ?_
              refine r_iald (pc := 31) (z := k) hC hK hP wM_6 ⟨by omega, by omega, by decide⟩ dX5_clashes_31 ?_
              refine lv_aload_n (pc := 32) hx hb dX5_clashes_32 rfl (lv_at hl 0 rfl) ?_
              refine r_get (pc := 33) hC hK hP wM_o (hc := rfl) (fun w h => wt_1 w h) 9 (by decide) m_1_23 (fun _ h => h) (v := .ref (ad 6)) rfl dX5_clashes_33 ?_
              refine lv_iload_n (pc := 36) hx hb dX5_clashes_36 rfl (lv_at hl 3 rfl) ?_
              refine r_iald (pc := 37) (z := j) hC hK hP wM_6 ⟨by omega, by omega, by decide⟩ dX5_clashes_37 ?_
              refine c_callV (pc := 38) (y := yX5_alike) (As := [.int (iv (G 6 k.toNat)), .int (iv (G 6 j.toNat))]) (rest := [.int (iv nn)]) hC hE hP hD hS hl.1 (c_m_alike l ε m0 ad (va_up n 5 0) G R (G 6 k.toNat) (G 6 j.toNat) ⟨by omega, by omega⟩ (hV1.q (by omega) (by omega)) ⟨by omega, by omega⟩ (hV1.q (by omega) (by omega))) m_9_24 m_10_0 m_10_1 m_0_5 m_10_2 wM_o rfl hd_yX5_alike rfl ⟨⟨by decide, by decide⟩, by decide, by decide⟩ (Nat.le_of_ble_eq_true rfl) rfl dX5_clashes_38 kxN (fun v ws1 H locs hq hP hD hS => ?_)
              rw [hq.2] at hP hD
              rw [hq.1]
              dsimp only [Option.toList, List.cons_append, List.nil_append]
              refine r_if_b0 (pc := 41) (b := tb (AK (LQ G (G 6 k.toNat)) (LQ G (G 6 j.toNat)) (G 3 (G 6 k.toNat).toNat) (G 3 (G 6 j.toNat).toNat))) hx hb dX5_clashes_41 (tgt := 57) (by decide)  (fun c_41 => ?_) (fun c_41 => ?_)
              · replace c_41 := tb_no c_41
                refine lv_iconst (pc := 57) (v := iv 0) hx hb dX5_clashes_57 rfl ?_
                refine r_iadd (pc := 58) (a := nn) (b := 0) hx hb dX5_clashes_58 ?_
                refine lv_istore_n (lv' := [(1, .int (iv (nn + 0))), (0, .ref m0), (2, .int (iv k)), (3, .int (iv j))]) (pc := 59) hx hb dX5_clashes_59 rfl hl (by decide) rfl (fun ls hl => ?_)
                refine lv_iinc (v := iv (j + 1)) (lv' := [(3, .int (iv (j + 1))), (1, .int (iv (nn + 0))), (0, .ref m0), (2, .int (iv k))]) (pc := 60) hx hb dX5_clashes_60 hl (k := 3) rfl (iv_add _ _) (by decide) rfl (fun ls hl => ?_)
                refine lv_goto (pc := 63) (tgt := 19) hx hb dX5_clashes_63 (by decide) ?_
                exact ih_19 (nn + 0) (j + 1) (by omega) (by rw [CNT.succ hj.1, tb_f (show ¬ CLASH G k j from fun z => c_41 z.1), hn2]; simp only [bz_t, bz_f]; omega) (by omega) _ _ _ hP hD hS (lv_sub hl [2, 1, 3, 0] rfl)
              · replace c_41 := tb_iff.mp c_41
                have hcm := CNT.bd (BOTHS G k j) 1024
                have hcm2 : COMM G k j = CNT (BOTHS G k j) 1024 := rfl
                refine lv_aload_n (pc := 44) hx hb dX5_clashes_44 rfl (lv_at hl 0 rfl) ?_
                refine lv_iload_n (pc := 45) hx hb dX5_clashes_45 rfl (lv_at hl 2 rfl) ?_
                refine lv_iload_n (pc := 46) hx hb dX5_clashes_46 rfl (lv_at hl 3 rfl) ?_
                refine c_callV (pc := 47) (y := yX5_both) (As := [.int (iv k), .int (iv j)]) (rest := [.int (iv nn)]) hC hE hP hD hS hl.1 (c_m_both l ε m0 ad (va_up n 5 0) G R (k) (j) ⟨by omega, by omega⟩ (hV.i (by omega) (by omega)) ⟨by omega, by omega⟩ (hV.i (by omega) (by omega))) m_18_18 m_18_19 m_18_20 m_0_5 m_18_21 wM_o rfl hd_yX5_both rfl ⟨⟨by decide, by decide⟩, by decide, by decide⟩ (Nat.le_of_ble_eq_true rfl) rfl dX5_clashes_47 kxN (fun v ws1 H locs hq hP hD hS => ?_)
                rw [hq.2] at hP hD
                rw [hq.1]
                dsimp only [Option.toList, List.cons_append, List.nil_append]
                refine r_if_le (pc := 50) (a := COMM G k j) hx hb dX5_clashes_50 (tgt := 57) (by decide) ⟨by omega, by omega⟩ (fun c_50 => ?_) (fun c_50 => ?_)
                · have c_50_ := c_50
                  refine lv_iconst (pc := 57) (v := iv 0) hx hb dX5_clashes_57 rfl ?_
                  refine r_iadd (pc := 58) (a := nn) (b := 0) hx hb dX5_clashes_58 ?_
                  refine lv_istore_n (lv' := [(1, .int (iv (nn + 0))), (0, .ref m0), (2, .int (iv k)), (3, .int (iv j))]) (pc := 59) hx hb dX5_clashes_59 rfl hl (by decide) rfl (fun ls hl => ?_)
                  refine lv_iinc (v := iv (j + 1)) (lv' := [(3, .int (iv (j + 1))), (1, .int (iv (nn + 0))), (0, .ref m0), (2, .int (iv k))]) (pc := 60) hx hb dX5_clashes_60 hl (k := 3) rfl (iv_add _ _) (by decide) rfl (fun ls hl => ?_)
                  refine lv_goto (pc := 63) (tgt := 19) hx hb dX5_clashes_63 (by decide) ?_
                  exact ih_19 (nn + 0) (j + 1) (by omega) (by rw [CNT.succ hj.1, tb_f (show ¬ CLASH G k j from fun z => by have z2 := z.2; omega), hn2]; simp only [bz_t, bz_f]; omega) (by omega) _ _ _ hP hD hS (lv_sub hl [2, 1, 3, 0] rfl)
                · have c_50_ := c_50
                  refine lv_iconst (pc := 53) (v := iv 1) hx hb dX5_clashes_53 rfl ?_
                  refine lv_goto (pc := 54) (tgt := 58) hx hb dX5_clashes_54 (by decide) ?_
                  refine r_iadd (pc := 58) (a := nn) (b := 1) hx hb dX5_clashes_58 ?_
                  refine lv_istore_n (lv' := [(1, .int (iv (nn + 1))), (0, .ref m0), (2, .int (iv k)), (3, .int (iv j))]) (pc := 59) hx hb dX5_clashes_59 rfl hl (by decide) rfl (fun ls hl => ?_)
                  refine lv_iinc (v := iv (j + 1)) (lv' := [(3, .int (iv (j + 1))), (1, .int (iv (nn + 1))), (0, .ref m0), (2, .int (iv k))]) (pc := 60) hx hb dX5_clashes_60 hl (k := 3) rfl (iv_add _ _) (by decide) rfl (fun ls hl => ?_)
                  refine lv_goto (pc := 63) (tgt := 19) hx hb dX5_clashes_63 (by decide) ?_
                  exact ih_19 (nn + 1) (j + 1) (by omega) (by rw [CNT.succ hj.1, tb_t (show CLASH G k j from ⟨c_41, c_50⟩), hn2]; simp only [bz_t, bz_f]; omega) (by omega) _ _ _ hP hD hS (lv_sub hl [2, 1, 3, 0] rfl)
        exact lp_19 _ nn 0 (by omega) (by rw [hn]; show _ = _ + (0 : Int); omega) (Nat.lt_succ_self _) _ _ _ hP hD hS (lv_sub hl [1, 2, 3, 0] rfl)
  exact lp_9 _ 0 0 (by omega) rfl (Nat.lt_succ_self _) _ _ _ hP hD hS (lv_sub hl [2, 1, 0] rfl)

abbrev rm_c_m_taken : Room := { frames := 4, cells := 0, slots := 0, locals := 130 }
set_option maxRecDepth 100000 in
set_option maxHeartbeats 4000000 in
theorem c_m_taken (l : Launch) (ε : EV) (m0 : Nat) (ad : Nat → Nat) (n : Nat → Int) (G : Nat → Nat → Int) (R : va_W) (ch x y i fr many : Int) (rc : rg ch) (rx : rg x) (ry : rg y) (ri : rg i) (rf : rg fr) (rm9 : rg many) (hV1 : VPat n G) (hV : VLam n G) (hV4 : VCha n G) : CT l yX5_taken cX5_taken 12 (some .int) rm_c_m_taken ε [.ref m0, .int (iv ch), .int (iv x), .int (iv y), .int (iv i), .int (iv fr), .int (iv many)] (wM ε m0 ad n G ++ R) (fun v w => ((¬ ((0 ≤ ch ∧ ch < n 4) ∧ 0 ≤ i ∧ i < n 2)) ∧ v = some (.int (iv 0)) ∧ w = wM ε m0 ad (va_up n 5 1) G ++ R) ∨ ((((0 ≤ ch ∧ ch < n 4) ∧ 0 ≤ i ∧ i < n 2) ∧ ¬ (((0 ≤ x ∧ x ≤ 31) ∧ 0 ≤ y ∧ y ≤ 31) ∧ (0 ≤ fr ∧ fr ≤ 1000) ∧ 1 ≤ many ∧ many ≤ 60)) ∧ v = some (.int (iv 0)) ∧ w = wM ε m0 ad (va_up n 5 2) G ++ R) ∨ ((((0 ≤ ch ∧ ch < n 4) ∧ 0 ≤ i ∧ i < n 2) ∧ (((0 ≤ x ∧ x ≤ 31) ∧ 0 ≤ y ∧ y ≤ 31) ∧ (0 ≤ fr ∧ fr ≤ 1000) ∧ 1 ≤ many ∧ many ≤ 60)) ∧ v = some (.int (iv (TK (CANB G ch x y i fr many) (n 2).toNat))) ∧ w = wM ε m0 ad (va_up n 5 0) G ++ R)) NX := by
  refine CT.intro (by decide +kernel) (Nat.le_of_ble_eq_true rfl) ?_
  intro p9 e9 s9 m9 a9 bl9 me9 c9 ls Q9 hC hE hP hD hl hQ
  have hx := hC.1
  have hb := hC.2.1
  have hK := hE.K
  have hS : WS ε s9.heap s9.heap [] := va_S.rf
  have hl : lv_has ls 12 [(0, .ref m0), (1, .int (iv ch)), (2, .int (iv x)), (3, .int (iv y)), (4, .int (iv i)), (5, .int (iv fr)), (6, .int (iv many))] := hl
  obtain ⟨H, hH⟩ : ∃ H, H = s9.heap := ⟨_, rfl⟩
  obtain ⟨locs, hlo⟩ : ∃ z : List Loc, z = [] := ⟨_, rfl⟩
  rw [← hH] at hP ⊢
  have hS : WS ε s9.heap H locs := by rw [hH, hlo]; exact hS
  rw [← hlo]
  clear hH hlo
  have hn1 := hV1.1
  have hn2 := hV.1
  have hn4 := hV4.1
  have lp_36 : ∀ (ok : Bool) (hok : ok = true ↔ ((0 ≤ x ∧ x ≤ 31) ∧ 0 ≤ y ∧ y ≤ 31) ∧ (0 ≤ fr ∧ fr ≤ 1000) ∧ 1 ≤ many ∧ many ≤ 60), ∀ (H : Heap) (locs : List Loc) (ls : Array Slot), WP ε (wM ε m0 ad n G ++ R) H → WD ε (wM ε m0 ad n G ++ R) → WS ε s9.heap H locs → lv_has ls 12 [(0, .ref m0), (1, .int (iv ch)), (2, .int (iv x)), (3, .int (iv y)), (4, .int (iv i)), (5, .int (iv fr)), (6, .int (iv many))] → W p9 l e9 rm_c_m_taken s9 m9 a9 bl9 me9 c9 H locs 0 0 Q9 (F0 m9 36 ls [.int (iv (bz ok))]) := by
    intro ok hok H locs ls hP hD hS hl
    refine lv_istore (lv' := [(7, .int (iv (bz ok))), (0, .ref m0), (1, .int (iv ch)), (2, .int (iv x)), (3, .int (iv y)), (4, .int (iv i)), (5, .int (iv fr)), (6, .int (iv many))]) (pc := 36) hx hb dX5_taken_36 hl (by decide) rfl (fun ls hl => ?_)
    have hok0 : ok = false → ¬ (((0 ≤ x ∧ x ≤ 31) ∧ 0 ≤ y ∧ y ≤ 31) ∧ (0 ≤ fr ∧ fr ≤ 1000) ∧ 1 ≤ many ∧ many ≤ 60) := fun z1 z2 => by rw [hok.mpr z2] at z1; cases z1
    refine lv_aload_n (pc := 38) hx hb dX5_taken_38 rfl (lv_at hl 1 rfl) ?_
    refine lv_aload_n (pc := 39) hx hb dX5_taken_39 rfl (lv_at hl 1 rfl) ?_
    refine lv_iload_n (pc := 40) hx hb dX5_taken_40 rfl (lv_at hl 2 rfl) ?_
    refine c_callV (pc := 41) (y := yX5_isChart) (As := [.int (iv ch)]) (rest := [.ref m0]) hC hE hP hD hS hl.1 (c_m_isChart l ε m0 ad n G R (ch) ⟨by omega, by omega⟩ ⟨by omega, by omega⟩) m_22_3 m_22_4 m_22_5 m_0_5 m_22_6 wM_o rfl hd_yX5_isChart rfl ⟨⟨by decide, by decide⟩, by decide, by decide⟩ (Nat.le_of_ble_eq_true rfl) rfl dX5_taken_41 kxN (fun v ws1 H locs hq hP hD hS => ?_)
    rw [hq.2] at hP hD
    rw [hq.1]
    dsimp only [Option.toList, List.cons_append, List.nil_append]
    refine r_if_b0 (pc := 44) (b := decide (0 ≤ ch ∧ ch < n 4)) hx hb dX5_taken_44 (tgt := 56) (by decide)  (fun c_44 => ?_) (fun c_44 => ?_)
    · replace c_44 := of_decide_eq_false c_44
      refine lv_iconst (pc := 56) (v := iv 1) hx hb dX5_taken_56 rfl ?_
      refine lv_goto (pc := 57) (tgt := 70) hx hb dX5_taken_57 (by decide) ?_
      refine m_put5 (pc := 70) (v := 1) hC hK hP hD hS m_3_4 dX5_taken_70 (fun H locs hP hD hS => ?_)
      refine lv_aload_n (pc := 73) hx hb dX5_taken_73 rfl (lv_at hl 1 rfl) ?_
      refine r_get (pc := 74) hC hK hP wM_o (hc := rfl) (fun w h => wt_1 w h) 19 (by decide) m_3_4 (fun _ h => h) (v := .int (iv 1)) rfl dX5_taken_74 ?_
      refine r_if_le (pc := 77) (a := 1) hx hb dX5_taken_77 (tgt := 82) (by decide) ⟨by omega, by omega⟩ (fun c_77 => ?_) (fun c_77 => ?_)
      · exact absurd c_77 (by decide)
      · have c_77_ := c_77
        refine lv_iconst (pc := 80) (v := iv 0) hx hb dX5_taken_80 rfl ?_
        refine c_iret (pc := 81) hC hQ hP hD hS (by decide) (by decide) dX5_taken_81 ?_
        exact Or.inl (⟨(by omega), rfl, rfl⟩)
    · replace c_44 := of_decide_eq_true c_44
      refine lv_aload_n (pc := 47) hx hb dX5_taken_47 rfl (lv_at hl 1 rfl) ?_
      refine lv_iload (pc := 48) hx hb dX5_taken_48 (lv_at hl 5 rfl) ?_
      refine c_callV (pc := 50) (y := yX5_isLamp) (As := [.int (iv i)]) (rest := [.ref m0]) hC hE hP hD hS hl.1 (c_m_isLamp l ε m0 ad n G R (i) ⟨by omega, by omega⟩ ⟨by omega, by omega⟩) m_14_18 m_14_19 m_14_20 m_0_5 m_14_21 wM_o rfl hd_yX5_isLamp rfl ⟨⟨by decide, by decide⟩, by decide, by decide⟩ (Nat.le_of_ble_eq_true rfl) rfl dX5_taken_50 kxN (fun v ws1 H locs hq hP hD hS => ?_)
      rw [hq.2] at hP hD
      rw [hq.1]
      dsimp only [Option.toList, List.cons_append, List.nil_append]
      refine r_if_b1 (pc := 53) (b := decide (0 ≤ i ∧ i < n 2)) hx hb dX5_taken_53 (tgt := 60) (by decide)  (fun c_53 => ?_) (fun c_53 => ?_)
      · replace c_53 := of_decide_eq_true c_53
        refine lv_iload (pc := 60) hx hb dX5_taken_60 (lv_at hl 0 rfl) ?_
        refine r_if_b0 (pc := 62) (b := ok) hx hb dX5_taken_62 (tgt := 69) (by decide)  (fun c_62 => ?_) (fun c_62 => ?_)
        · have c_62_ := c_62
          have hok1 := hok0 c_62
          refine lv_iconst (pc := 69) (v := iv 2) hx hb dX5_taken_69 rfl ?_
          refine m_put5 (pc := 70) (v := 2) hC hK hP hD hS m_3_4 dX5_taken_70 (fun H locs hP hD hS => ?_)
          refine lv_aload_n (pc := 73) hx hb dX5_taken_73 rfl (lv_at hl 1 rfl) ?_
          refine r_get (pc := 74) hC hK hP wM_o (hc := rfl) (fun w h => wt_1 w h) 19 (by decide) m_3_4 (fun _ h => h) (v := .int (iv 2)) rfl dX5_taken_74 ?_
          refine r_if_le (pc := 77) (a := 2) hx hb dX5_taken_77 (tgt := 82) (by decide) ⟨by omega, by omega⟩ (fun c_77 => ?_) (fun c_77 => ?_)
          · exact absurd c_77 (by decide)
          · have c_77_ := c_77
            refine lv_iconst (pc := 80) (v := iv 0) hx hb dX5_taken_80 rfl ?_
            refine c_iret (pc := 81) hC hQ hP hD hS (by decide) (by decide) dX5_taken_81 ?_
            exact Or.inr (Or.inl (⟨(by omega), rfl, rfl⟩))
        · have c_62_ := c_62
          have hok1 := hok.mp c_62
          refine lv_iconst (pc := 65) (v := iv 0) hx hb dX5_taken_65 rfl ?_
          refine lv_goto (pc := 66) (tgt := 70) hx hb dX5_taken_66 (by decide) ?_
          refine m_put5 (pc := 70) (v := 0) hC hK hP hD hS m_3_4 dX5_taken_70 (fun H locs hP hD hS => ?_)
          refine lv_aload_n (pc := 73) hx hb dX5_taken_73 rfl (lv_at hl 1 rfl) ?_
          refine r_get (pc := 74) hC hK hP wM_o (hc := rfl) (fun w h => wt_1 w h) 19 (by decide) m_3_4 (fun _ h => h) (v := .int (iv 0)) rfl dX5_taken_74 ?_
          refine r_if_le (pc := 77) (a := 0) hx hb dX5_taken_77 (tgt := 82) (by decide) ⟨by omega, by omega⟩ (fun c_77 => ?_) (fun c_77 => ?_)
          · have c_77_ := c_77
            have hli := hV.i (q := i) (by omega) (by omega)
            have hch := (hV4.2 ch (by omega) (by omega)).2
            refine lv_iconst (pc := 82) (v := iv (-1)) hx hb dX5_taken_82 rfl ?_
            refine lv_istore (lv' := [(8, .int (iv ((-1)))), (7, .int (iv (bz ok))), (0, .ref m0), (1, .int (iv ch)), (2, .int (iv x)), (3, .int (iv y)), (4, .int (iv i)), (5, .int (iv fr)), (6, .int (iv many))]) (pc := 83) hx hb dX5_taken_83 hl (by decide) rfl (fun ls hl => ?_)
            refine lv_iconst (pc := 85) (v := iv 0) hx hb dX5_taken_85 rfl ?_
            refine lv_istore (lv' := [(9, .int (iv 0)), (8, .int (iv ((-1)))), (7, .int (iv (bz ok))), (0, .ref m0), (1, .int (iv ch)), (2, .int (iv x)), (3, .int (iv y)), (4, .int (iv i)), (5, .int (iv fr)), (6, .int (iv many))]) (pc := 86) hx hb dX5_taken_86 hl (by decide) rfl (fun ls hl => ?_)
            have lp_88 : ∀ (k9 : Nat) (its : Int) (k : Int) (hk : 0 ≤ k ∧ k ≤ n 2) (hits : its = TK (CANB G ch x y i fr many) k.toNat) , ((n 2 - k).toNat) < k9 → ∀ (H : Heap) (locs : List Loc) (ls : Array Slot), WP ε (wM ε m0 ad (va_up n 5 0) G ++ R) H → WD ε (wM ε m0 ad (va_up n 5 0) G ++ R) → WS ε s9.heap H locs → lv_has ls 12 [(0, .ref m0), (1, .int (iv ch)), (2, .int (iv x)), (3, .int (iv y)), (4, .int (iv i)), (5, .int (iv fr)), (6, .int (iv many)), (8, .int (iv its)), (9, .int (iv k))] → W p9 l e9 rm_c_m_taken s9 m9 a9 bl9 me9 c9 H locs 0 0 Q9 (F0 m9 88 ls []) := by
              intro k9
              induction k9 with
              | zero => intro its k hk hits h9; exact absurd h9 (Nat.not_lt_zero _)
              | succ k9 ih_88 =>
                intro its k hk hits h9 H locs ls hP hD hS hl
                refine lv_iload (pc := 88) hx hb dX5_taken_88 (lv_at hl 8 rfl) ?_
                refine lv_aload_n (pc := 90) hx hb dX5_taken_90 rfl (lv_at hl 0 rfl) ?_
                refine r_get (pc := 91) hC hK hP wM_o (hc := rfl) (fun w h => wt_1 w h) 6 (by decide) m_13_22 (fun _ h => h) (v := .int (iv (n 2))) rfl dX5_taken_91 ?_
                refine r_icmp_ge (pc := 94) (a := k) (b := n 2) hx hb dX5_taken_94 (tgt := 180) (by decide) ⟨by omega, by omega⟩ ⟨by omega, by omega⟩ (fun c_94 => ?_) (fun c_94 => ?_)
                · have c_94_ := c_94
                  have hres : its = TK (CANB G ch x y i fr many) (n 2).toNat := by rw [hits, show k.toNat = (n 2).toNat by omega]
                  refine lv_iload (pc := 180) hx hb dX5_taken_180 (lv_at hl 7 rfl) ?_
                  refine c_iret (pc := 182) hC hQ hP hD hS (by decide) (by decide) dX5_taken_182 ?_
                  exact Or.inr (Or.inr (⟨(by omega), congrArg (fun z => some (Value.int (iv z))) hres, rfl⟩))
                · have c_94_ := c_94
                  have hck := hch k (by omega) (by omega)
                  have lp_147 : ∀ (can : Bool) (hcan : can = true ↔ CANB G ch x y i fr many k), ∀ (H : Heap) (locs : List Loc) (ls : Array Slot), WP ε (wM ε m0 ad (va_up n 5 0) G ++ R) H → WD ε (wM ε m0 ad (va_up n 5 0) G ++ R) → WS ε s9.heap H locs → lv_has ls 12 [(0, .ref m0), (1, .int (iv ch)), (2, .int (iv x)), (3, .int (iv y)), (4, .int (iv i)), (5, .int (iv fr)), (6, .int (iv many)), (8, .int (iv its)), (9, .int (iv k))] → W p9 l e9 rm_c_m_taken s9 m9 a9 bl9 me9 c9 H locs 0 0 Q9 (F0 m9 147 ls [.int (iv (bz can))]) := by
                    intro can hcan H locs ls hP hD hS hl
                    refine lv_istore (lv' := [(11, .int (iv (bz can))), (0, .ref m0), (1, .int (iv ch)), (2, .int (iv x)), (3, .int (iv y)), (4, .int (iv i)), (5, .int (iv fr)), (6, .int (iv many)), (8, .int (iv its)), (9, .int (iv k))]) (pc := 147) hx hb dX5_taken_147 hl (by decide) rfl (fun ls hl => ?_)
                    have htk := TK.bd (CANB G ch x y i fr many) k.toNat
                    refine lv_iload (pc := 149) hx hb dX5_taken_149 (lv_at hl 0 rfl) ?_
                    refine r_if_b1 (pc := 151) (b := can) hx hb dX5_taken_151 (tgt := 159) (by decide)  (fun c_151 => ?_) (fun c_151 => ?_)
                    · have c_151_ := c_151
                      refine lv_iload (pc := 159) hx hb dX5_taken_159 (lv_at hl 8 rfl) ?_
                      refine lv_iconst (pc := 161) (v := iv (-1)) hx hb dX5_taken_161 rfl ?_
                      refine r_icmp_ne (pc := 162) (a := its) (b := (-1)) hx hb dX5_taken_162 (tgt := 170) (by decide) ⟨by omega, by omega⟩ ⟨by omega, by omega⟩ (fun c_162 => ?_) (fun c_162 => ?_)
                      · have c_162_ := c_162
                        refine lv_bipush (pc := 170) (v := iv (-2)) hx hb dX5_taken_170 (by decide) ?_
                        refine lv_istore (lv' := [(8, .int (iv ((-2)))), (11, .int (iv (bz can))), (0, .ref m0), (1, .int (iv ch)), (2, .int (iv x)), (3, .int (iv y)), (4, .int (iv i)), (5, .int (iv fr)), (6, .int (iv many)), (9, .int (iv k))]) (pc := 172) hx hb dX5_taken_172 hl (by decide) rfl (fun ls hl => ?_)
                        refine lv_iinc (v := iv (k + 1)) (lv' := [(9, .int (iv (k + 1))), (8, .int (iv ((-2)))), (11, .int (iv (bz can))), (0, .ref m0), (1, .int (iv ch)), (2, .int (iv x)), (3, .int (iv y)), (4, .int (iv i)), (5, .int (iv fr)), (6, .int (iv many))]) (pc := 174) hx hb dX5_taken_174 hl (k := 9) rfl (iv_add _ _) (by decide) rfl (fun ls hl => ?_)
                        refine lv_goto (pc := 177) (tgt := 88) hx hb dX5_taken_177 (by decide) ?_
                        exact ih_88 ((-2)) (k + 1) (by omega) (by rw [TK.succ hk.1, tb_t (hcan.mp c_151), if_pos rfl, if_neg (by rw [← hits]; omega)]) (by omega) _ _ _ hP hD hS (lv_sub hl [3, 4, 5, 6, 7, 8, 9, 1, 0] rfl)
                      · have c_162_ := c_162
                        refine lv_iload (pc := 165) hx hb dX5_taken_165 (lv_at hl 9 rfl) ?_
                        refine lv_goto (pc := 167) (tgt := 172) hx hb dX5_taken_167 (by decide) ?_
                        refine lv_istore (lv' := [(8, .int (iv k)), (11, .int (iv (bz can))), (0, .ref m0), (1, .int (iv ch)), (2, .int (iv x)), (3, .int (iv y)), (4, .int (iv i)), (5, .int (iv fr)), (6, .int (iv many)), (9, .int (iv k))]) (pc := 172) hx hb dX5_taken_172 hl (by decide) rfl (fun ls hl => ?_)
                        refine lv_iinc (v := iv (k + 1)) (lv' := [(9, .int (iv (k + 1))), (8, .int (iv k)), (11, .int (iv (bz can))), (0, .ref m0), (1, .int (iv ch)), (2, .int (iv x)), (3, .int (iv y)), (4, .int (iv i)), (5, .int (iv fr)), (6, .int (iv many))]) (pc := 174) hx hb dX5_taken_174 hl (k := 9) rfl (iv_add _ _) (by decide) rfl (fun ls hl => ?_)
                        refine lv_goto (pc := 177) (tgt := 88) hx hb dX5_taken_177 (by decide) ?_
                        exact ih_88 k (k + 1) (by omega) (by rw [TK.succ hk.1, tb_t (hcan.mp c_151), if_pos rfl, if_pos (by rw [← hits]; omega)]) (by omega) _ _ _ hP hD hS (lv_sub hl [3, 4, 5, 6, 7, 8, 9, 1, 0] rfl)
                    · have c_151_ := c_151
                      refine lv_iload (pc := 154) hx hb dX5_taken_154 (lv_at hl 8 rfl) ?_
                      refine lv_goto (pc := 156) (tgt := 172) hx hb dX5_taken_156 (by decide) ?_
                      refine lv_istore (lv' := [(8, .int (iv its)), (11, .int (iv (bz can))), (0, .ref m0), (1, .int (iv ch)), (2, .int (iv x)), (3, .int (iv y)), (4, .int (iv i)), (5, .int (iv fr)), (6, .int (iv many)), (9, .int (iv k))]) (pc := 172) hx hb dX5_taken_172 hl (by decide) rfl (fun ls hl => ?_)
                      refine lv_iinc (v := iv (k + 1)) (lv' := [(9, .int (iv (k + 1))), (8, .int (iv its)), (11, .int (iv (bz can))), (0, .ref m0), (1, .int (iv ch)), (2, .int (iv x)), (3, .int (iv y)), (4, .int (iv i)), (5, .int (iv fr)), (6, .int (iv many))]) (pc := 174) hx hb dX5_taken_174 hl (k := 9) rfl (iv_add _ _) (by decide) rfl (fun ls hl => ?_)
                      refine lv_goto (pc := 177) (tgt := 88) hx hb dX5_taken_177 (by decide) ?_
                      exact ih_88 its (k + 1) (by omega) (by rw [TK.succ hk.1, tb_f (fun z => absurd (hcan.mpr z) (by rw [c_151]; decide)), hits]; rfl) (by omega) _ _ _ hP hD hS (lv_sub hl [3, 4, 5, 6, 7, 8, 9, 1, 0] rfl)
                  refine lv_aload_n (pc := 97) hx hb dX5_taken_97 rfl (lv_at hl 0 rfl) ?_
                  refine r_get (pc := 98) hC hK hP wM_o (hc := rfl) (fun w h => wt_1 w h) 18 (by decide) m_2_6 (fun _ h => h) (v := .ref (ad 13)) rfl dX5_taken_98 ?_
                  refine lv_bipush (pc := 101) (v := iv 12) hx hb dX5_taken_101 (by decide) ?_
                  refine lv_iload_n (pc := 103) hx hb dX5_taken_103 rfl (lv_at hl 1 rfl) ?_
                  refine r_imul (pc := 104) (a := 12) (b := ch) hx hb dX5_taken_104 ?_
                  refine lv_iload (pc := 105) hx hb dX5_taken_105 (lv_at hl 8 rfl) ?_
                  refine r_iadd (pc := 107) (a := 12 * ch) (b := k) hx hb dX5_taken_107 ?_
                  refine r_iald (pc := 108) (z := (12 * ch) + k) hC hK hP wM_13 ⟨by omega, by omega, by decide⟩ dX5_taken_108 ?_
                  refine lv_istore (lv' := [(10, .int (iv (G 13 ((12 * ch) + k).toNat))), (0, .ref m0), (1, .int (iv ch)), (2, .int (iv x)), (3, .int (iv y)), (4, .int (iv i)), (5, .int (iv fr)), (6, .int (iv many)), (8, .int (iv its)), (9, .int (iv k))]) (pc := 109) hx hb dX5_taken_109 hl (by decide) rfl (fun ls hl => ?_)
                  refine lv_iload (pc := 111) hx hb dX5_taken_111 (lv_at hl 0 rfl) ?_
                  refine r_if_lt (pc := 113) (a := G 13 ((12 * ch) + k).toNat) hx hb dX5_taken_113 (tgt := 146) (by decide) ⟨by omega, by omega⟩ (fun c_113 => ?_) (fun c_113 => ?_)
                  · have c_113_ := c_113
                    refine lv_iconst (pc := 146) (v := iv 0) hx hb dX5_taken_146 rfl ?_
                    exact lp_147 false ⟨fun z => (by cases z), fun z => (by have z1 := z.1.1; omega)⟩ _ _ _ hP hD hS (lv_sub hl [1, 2, 3, 4, 5, 6, 7, 8, 9] rfl)
                  · have c_113_ := c_113
                    refine lv_aload_n (pc := 116) hx hb dX5_taken_116 rfl (lv_at hl 1 rfl) ?_
                    refine lv_iload (pc := 117) hx hb dX5_taken_117 (lv_at hl 9 rfl) ?_
                    refine lv_iload_n (pc := 119) hx hb dX5_taken_119 rfl (lv_at hl 3 rfl) ?_
                    refine lv_iload_n (pc := 120) hx hb dX5_taken_120 rfl (lv_at hl 4 rfl) ?_
                    refine c_callV (pc := 121) (y := yX5_sees) (As := [.int (iv k), .int (iv x), .int (iv y)]) (rest := []) hC hE hP hD hS hl.1 (c_m_sees l ε m0 ad (va_up n 5 0) G R (k) (x) (y) ⟨by omega, by omega⟩ (hV.i (by omega) (by omega)) ⟨⟨by omega, by omega⟩, by omega, by omega⟩) m_17_17 m_17_18 m_17_19 m_0_5 m_17_20 wM_o rfl hd_yX5_sees rfl ⟨⟨by decide, by decide⟩, by decide, by decide⟩ (Nat.le_of_ble_eq_true rfl) rfl dX5_taken_121 kxN (fun v ws1 H locs hq hP hD hS => ?_)
                    rw [hq.2] at hP hD
                    rw [hq.1]
                    dsimp only [Option.toList, List.cons_append, List.nil_append]
                    refine r_if_b0 (pc := 124) (b := tb (SEES G k x y)) hx hb dX5_taken_124 (tgt := 146) (by decide)  (fun c_124 => ?_) (fun c_124 => ?_)
                    · replace c_124 := tb_no c_124
                      refine lv_iconst (pc := 146) (v := iv 0) hx hb dX5_taken_146 rfl ?_
                      exact lp_147 false ⟨fun z => (by cases z), fun z => (by exact absurd z.1.2 c_124)⟩ _ _ _ hP hD hS (lv_sub hl [1, 2, 3, 4, 5, 6, 7, 8, 9] rfl)
                    · replace c_124 := tb_iff.mp c_124
                      refine lv_aload_n (pc := 127) hx hb dX5_taken_127 rfl (lv_at hl 1 rfl) ?_
                      refine lv_iload (pc := 128) hx hb dX5_taken_128 (lv_at hl 0 rfl) ?_
                      refine lv_iload (pc := 130) hx hb dX5_taken_130 (lv_at hl 5 rfl) ?_
                      refine lv_iload (pc := 132) hx hb dX5_taken_132 (lv_at hl 6 rfl) ?_
                      refine lv_iload (pc := 134) hx hb dX5_taken_134 (lv_at hl 7 rfl) ?_
                      refine c_callV (pc := 136) (y := yX5_could) (As := [.int (iv (G 13 ((12 * ch) + k).toNat)), .int (iv i), .int (iv fr), .int (iv many)]) (rest := []) hC hE hP hD hS hl.1 (c_m_could l ε m0 ad (va_up n 5 0) G R (G 13 ((12 * ch) + k).toNat) (i) (fr) (many) ⟨by omega, by omega⟩ (hV1.q (by omega) (by omega)) ⟨by omega, by omega⟩ hli (hV1.q hli.2.2.1.1 hli.2.2.1.2) hn1.2 ⟨by omega, by omega⟩ ⟨by omega, by omega⟩) m_24_6 m_24_7 m_24_8 m_0_5 m_24_9 wM_o rfl hd_yX5_could rfl ⟨⟨by decide, by decide⟩, by decide, by decide⟩ (Nat.le_of_ble_eq_true rfl) rfl dX5_taken_136 kxN (fun v ws1 H locs hq hP hD hS => ?_)
                      rw [hq.2] at hP hD
                      rw [hq.1]
                      dsimp only [Option.toList, List.cons_append, List.nil_append]
                      refine r_if_b0 (pc := 139) (b := tb (COULD G (G 13 ((12 * ch) + k).toNat) i fr many)) hx hb dX5_taken_139 (tgt := 146) (by decide)  (fun c_139 => ?_) (fun c_139 => ?_)
                      · replace c_139 := tb_no c_139
                        refine lv_iconst (pc := 146) (v := iv 0) hx hb dX5_taken_146 rfl ?_
                        exact lp_147 false ⟨fun z => (by cases z), fun z => (by exact absurd z.2 c_139)⟩ _ _ _ hP hD hS (lv_sub hl [1, 2, 3, 4, 5, 6, 7, 8, 9] rfl)
                      · replace c_139 := tb_iff.mp c_139
                        refine lv_iconst (pc := 142) (v := iv 1) hx hb dX5_taken_142 rfl ?_
                        refine lv_goto (pc := 143) (tgt := 147) hx hb dX5_taken_143 (by decide) ?_
                        exact lp_147 true ⟨fun _ => ⟨⟨by omega, c_124⟩, c_139⟩, fun _ => rfl⟩ _ _ _ hP hD hS (lv_sub hl [1, 2, 3, 4, 5, 6, 7, 8, 9] rfl)
            exact lp_88 _ ((-1)) 0 (by omega) rfl (Nat.lt_succ_self _) _ _ _ hP hD hS (lv_sub hl [3, 4, 5, 6, 7, 8, 9, 1, 0] rfl)
          · exact absurd c_77 (by decide)
      · replace c_53 := of_decide_eq_false c_53
        refine lv_iconst (pc := 56) (v := iv 1) hx hb dX5_taken_56 rfl ?_
        refine lv_goto (pc := 57) (tgt := 70) hx hb dX5_taken_57 (by decide) ?_
        refine m_put5 (pc := 70) (v := 1) hC hK hP hD hS m_3_4 dX5_taken_70 (fun H locs hP hD hS => ?_)
        refine lv_aload_n (pc := 73) hx hb dX5_taken_73 rfl (lv_at hl 1 rfl) ?_
        refine r_get (pc := 74) hC hK hP wM_o (hc := rfl) (fun w h => wt_1 w h) 19 (by decide) m_3_4 (fun _ h => h) (v := .int (iv 1)) rfl dX5_taken_74 ?_
        refine r_if_le (pc := 77) (a := 1) hx hb dX5_taken_77 (tgt := 82) (by decide) ⟨by omega, by omega⟩ (fun c_77 => ?_) (fun c_77 => ?_)
        · exact absurd c_77 (by decide)
        · have c_77_ := c_77
          refine lv_iconst (pc := 80) (v := iv 0) hx hb dX5_taken_80 rfl ?_
          refine c_iret (pc := 81) hC hQ hP hD hS (by decide) (by decide) dX5_taken_81 ?_
          exact Or.inl (⟨(by omega), rfl, rfl⟩)
  refine lv_iload_n (pc := 0) hx hb dX5_taken_0 rfl (lv_at hl 2 rfl) ?_
  refine lv_iload_n (pc := 1) hx hb dX5_taken_1 rfl (lv_at hl 3 rfl) ?_
  refine c_callS (pc := 2) (y := yX5_isPlace) (As := [.int (iv x), .int (iv y)]) (rest := []) hC hE hP hD hS hl.1 (c_m_isPlace l ε (wM ε m0 ad n G ++ R) (x) (y) ⟨by omega, by omega⟩ ⟨by omega, by omega⟩) m_13_23 m_13_24 m_0_5 m_14_0 hd_yX5_isPlace rfl ⟨⟨by decide, by decide⟩, by decide, by decide⟩ (Nat.le_of_ble_eq_true rfl) rfl dX5_taken_2 kxN (fun v ws1 H locs hq hP hD hS => ?_)
  rw [hq.2] at hP hD
  rw [hq.1]
  dsimp only [Option.toList, List.cons_append, List.nil_append]
  refine r_if_b0 (pc := 5) (b := decide ((0 ≤ x ∧ x ≤ 31) ∧ 0 ≤ y ∧ y ≤ 31)) hx hb dX5_taken_5 (tgt := 35) (by decide)  (fun c_5 => ?_) (fun c_5 => ?_)
  · replace c_5 := of_decide_eq_false c_5
    refine lv_iconst (pc := 35) (v := iv 0) hx hb dX5_taken_35 rfl ?_
    exact lp_36 false ⟨fun z => (by cases z), fun z => (by omega)⟩ _ _ _ hP hD hS (lv_sub hl [0, 1, 2, 3, 4, 5, 6] rfl)
  · replace c_5 := of_decide_eq_true c_5
    refine lv_iload (pc := 8) hx hb dX5_taken_8 (lv_at hl 5 rfl) ?_
    refine lv_iconst (pc := 10) (v := iv 0) hx hb dX5_taken_10 rfl ?_
    refine lv_sipush (pc := 11) (v := iv 1000) hx hb dX5_taken_11 (by decide) ?_
    refine c_callS (pc := 14) (y := yX5_isIn) (As := [.int (iv fr), .int (iv 0), .int (iv 1000)]) (rest := []) hC hE hP hD hS hl.1 (c_m_isIn l ε (wM ε m0 ad n G ++ R) (fr) (0) (1000) ⟨by omega, by omega⟩ ⟨by omega, by omega⟩ ⟨by omega, by omega⟩) m_3_5 m_3_6 m_0_5 m_3_7 hd_yX5_isIn rfl ⟨⟨by decide, by decide⟩, by decide, by decide⟩ (Nat.le_of_ble_eq_true rfl) rfl dX5_taken_14 kxN (fun v ws1 H locs hq hP hD hS => ?_)
    rw [hq.2] at hP hD
    rw [hq.1]
    dsimp only [Option.toList, List.cons_append, List.nil_append]
    refine r_if_b0 (pc := 17) (b := decide (0 ≤ fr ∧ fr ≤ 1000)) hx hb dX5_taken_17 (tgt := 35) (by decide)  (fun c_17 => ?_) (fun c_17 => ?_)
    · replace c_17 := of_decide_eq_false c_17
      refine lv_iconst (pc := 35) (v := iv 0) hx hb dX5_taken_35 rfl ?_
      exact lp_36 false ⟨fun z => (by cases z), fun z => (by omega)⟩ _ _ _ hP hD hS (lv_sub hl [0, 1, 2, 3, 4, 5, 6] rfl)
    · replace c_17 := of_decide_eq_true c_17
      refine lv_iload (pc := 20) hx hb dX5_taken_20 (lv_at hl 6 rfl) ?_
      refine lv_iconst (pc := 22) (v := iv 1) hx hb dX5_taken_22 rfl ?_
      refine lv_bipush (pc := 23) (v := iv 60) hx hb dX5_taken_23 (by decide) ?_
      refine c_callS (pc := 25) (y := yX5_isIn) (As := [.int (iv many), .int (iv 1), .int (iv 60)]) (rest := []) hC hE hP hD hS hl.1 (c_m_isIn l ε (wM ε m0 ad n G ++ R) (many) (1) (60) ⟨by omega, by omega⟩ ⟨by omega, by omega⟩ ⟨by omega, by omega⟩) m_3_5 m_3_6 m_0_5 m_3_7 hd_yX5_isIn rfl ⟨⟨by decide, by decide⟩, by decide, by decide⟩ (Nat.le_of_ble_eq_true rfl) rfl dX5_taken_25 kxN (fun v ws1 H locs hq hP hD hS => ?_)
      rw [hq.2] at hP hD
      rw [hq.1]
      dsimp only [Option.toList, List.cons_append, List.nil_append]
      refine r_if_b0 (pc := 28) (b := decide (1 ≤ many ∧ many ≤ 60)) hx hb dX5_taken_28 (tgt := 35) (by decide)  (fun c_28 => ?_) (fun c_28 => ?_)
      · replace c_28 := of_decide_eq_false c_28
        refine lv_iconst (pc := 35) (v := iv 0) hx hb dX5_taken_35 rfl ?_
        exact lp_36 false ⟨fun z => (by cases z), fun z => (by omega)⟩ _ _ _ hP hD hS (lv_sub hl [0, 1, 2, 3, 4, 5, 6] rfl)
      · replace c_28 := of_decide_eq_true c_28
        refine lv_iconst (pc := 31) (v := iv 1) hx hb dX5_taken_31 rfl ?_
        refine lv_goto (pc := 32) (tgt := 36) hx hb dX5_taken_32 (by decide) ?_
        exact lp_36 true ⟨fun _ => (by omega), fun _ => rfl⟩ _ _ _ hP hD hS (lv_sub hl [0, 1, 2, 3, 4, 5, 6] rfl)
