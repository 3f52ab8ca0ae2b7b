set_option maxRecDepth 100000 in
set_option maxHeartbeats 4000000 in
theorem law_c0 {p : Program} {l : Launch} {e : Env} {s : State} {m : MethodId} {b N : Nat} {xs : Nat → Int32} {below : List Frame} {meth : Method} {c : Code} {ε : EV} {x m0 : Nat} {ad : Nat → Nat} {o : Nat} {Q : State → Prop} {k : Nat} (h0 : LCX p l s m b N xs meth c ε k) (nx : LAT p l e s m b below meth c ε x m0 ad o Q 1396 k (k + 1)) : LAT p l e s m b below meth c ε x m0 ad o Q 132 k k := by
  intro n G g L f ρ H locs ls hW hP hD hS hl
  obtain ⟨hI, h3, hR⟩ := hW
  obtain ⟨⟨nm9, tb9, hC⟩, hE, hst, hX, hbl, hbA, hN1, hN2⟩ := h0
  have hx := hC.1
  have hb := hC.2.1
  have hK := hE.K
  have hnb := hI.NB
  obtain ⟨t, hz_t⟩ : ∃ z : Int, z = ZZ xs (7 * (k : Int) + 1) := ⟨_, rfl⟩
  have rt : rg t := by rw [hz_t]; exact ZZ_rg _ _
  refine lv_aload_n (pc := 132) hx hb dL_law_132 rfl (lv_at hl 2 rfl) ?_
  refine lv_aload_n (pc := 133) hx hb dL_law_133 rfl (lv_at hl 1 rfl) ?_
  refine lv_iload (pc := 134) hx hb dL_law_134 (lv_at hl 0 rfl) ?_
  refine lv_iconst (pc := 136) (v := iv 1) hx hb dL_law_136 rfl ?_
  refine r_iadd (pc := 137) (a := 7 * (k : Int)) (b := 1) hx hb dL_law_137 ?_
  refine r_sld (pc := 138) (z := (7 * (k : Int)) + 1) (v := t) hC hX hbl hbA hS ⟨by omega, by omega, by omega⟩ hz_t dL_law_138 ?_
  refine lv_aload_n (pc := 139) hx hb dL_law_139 rfl (lv_at hl 4 rfl) ?_
  replace hP : WP ε ((wM ε m0 ad n G ++ [(o, eJ ε 1 g)]) ++ va_pl L f) H := by rw [List.append_assoc]; exact hP
  replace hD : WD ε ((wM ε m0 ad n G ++ [(o, eJ ε 1 g)]) ++ va_pl L f) := by rw [List.append_assoc]; exact hD
  refine c_callSW (pc := 140) (y := yL_phase) (hh := [(0, 9, 12, 13), (0, 9, 15, 15)]) (As := [.ref x, .int (iv t), .ref o]) (rest := []) hC hE hP hD hS hl.1 (c_L_phase l ε (wM ε m0 ad n G) o g L f ρ hst x n G hR hI t rt) m_2_7 m_2_8 m_2_9 m_2_10 hd_yL_phase rfl ⟨⟨by decide, by decide⟩, (by show 40 + 20 * k + 2 ≤ 601024; omega), (by show 5000 + 3400 * k + 12 ≤ 7293034; omega)⟩ (Nat.le_of_ble_eq_true rfl) rfl dL_law_140 kxN (fun v9 w9 H locs hq hP hD hS => ?_)
  rcases hq with hq | hq | hq
  · obtain ⟨hc9, hv_, L2, f2, ρ2, hw_, hR2⟩ := hq
    rw [hw_, List.append_assoc] at hP hD
    rw [hv_]
    clear hv_ hw_
    dsimp only [Option.toList, List.cons_append, List.nil_append]
    refine lv_istore (lv' := [(5, .int (iv 0)), (4, .int (iv (7 * (k : Int)))), (0, .ref b), (1, .ref x), (2, .ref m0), (3, .ref o)]) (pc := 143) hx hb dL_law_143 hl (by decide) rfl (fun ls hl => ?_)
    refine lv_aload_n (pc := 145) hx hb dL_law_145 rfl (lv_at hl 4 rfl) ?_
    refine lv_aload_n (pc := 146) hx hb dL_law_146 rfl (lv_at hl 2 rfl) ?_
    refine lv_iload (pc := 147) hx hb dL_law_147 (lv_at hl 1 rfl) ?_
    refine lv_iconst (pc := 149) (v := iv 1) hx hb dL_law_149 rfl ?_
    refine r_iadd (pc := 150) (a := 7 * (k : Int)) (b := 1) hx hb dL_law_150 ?_
    refine r_sld (pc := 151) (z := (7 * (k : Int)) + 1) (v := t) hC hX hbl hbA hS ⟨by omega, by omega, by omega⟩ hz_t dL_law_151 ?_
    refine c_callV (pc := 152) (y := yX5_phase) (As := [.int (iv t)]) (rest := []) hC hE hP hD hS hl.1 (c_m_phase l ε m0 ad n G ([(o, eJ ε 1 (va_up g 0 (n 0 + 1)))] ++ va_pl L2 f2) t rt hI.1) m_2_24 m_3_0 m_3_1 m_0_5 m_3_2 wM_o rfl hd_yX5_phase rfl ⟨⟨by decide, by decide⟩, (by show 40 + 20 * k + 2 + 0 ≤ 601024; omega), (by show 5000 + 3400 * k + 12 + 0 ≤ 7293034; omega)⟩ (Nat.le_of_ble_eq_true rfl) rfl dL_law_152 kxN (fun v9 w9 H locs hq hP hD hS => ?_)
    rcases hq with hq | hq | hq
    · obtain ⟨hd9, hv_, hw_⟩ := hq
      clear hC hE hK hx hb hI hR hR2 nx hP hD hS hl hX
      exfalso
      omega
    · obtain ⟨hd9, hv_, hw_⟩ := hq
      clear hC hE hK hx hb hI hR hR2 nx hP hD hS hl hX
      exfalso
      omega
    · obtain ⟨hd9, hv_, hw_⟩ := hq
      rw [hw_] at hP hD
      rw [hv_]
      clear hv_ hw_
      dsimp only [Option.toList, List.cons_append, List.nil_append]
      have hd0 := hI.1.1
      refine lv_istore (lv' := [(6, .int (iv (n 0 + 1))), (5, .int (iv 0)), (4, .int (iv (7 * (k : Int)))), (0, .ref b), (1, .ref x), (2, .ref m0), (3, .ref o)]) (pc := 155) hx hb dL_law_155 hl (by decide) rfl (fun ls hl => ?_)
      refine lv_aload_n (pc := 157) hx hb dL_law_157 rfl (lv_at hl 5 rfl) ?_
      refine c_callV (pc := 158) (y := yX5_thrown) (As := []) (rest := []) hC hE hP hD hS hl.1 (c_m_thrown l ε m0 ad (va_up (va_up n 5 0) 0 (n 0 + 1)) (va_up G 0 (va_up (G 0) (n 0).toNat t)) ([(o, eJ ε 1 (va_up g 0 (n 0 + 1)))] ++ va_pl L2 f2)) m_3_8 m_3_9 m_3_10 m_0_5 m_3_11 wM_o rfl hd_yX5_thrown rfl ⟨⟨by decide, by decide⟩, (by show 40 + 20 * k + 2 + 0 + 0 ≤ 601024; omega), (by show 5000 + 3400 * k + 12 + 0 + 0 ≤ 7293034; omega)⟩ (Nat.le_of_ble_eq_true rfl) rfl dL_law_158 kxN (fun v9 w9 H locs hq hP hD hS => ?_)
      rw [hq.2] at hP hD
      rw [hq.1]
      dsimp only [Option.toList, List.cons_append, List.nil_append]
      rw [show (va_up (va_up n 5 0) 0 (n 0 + 1)) 5 = 0 from rfl]
      refine lv_iload (pc := 161) hx hb dL_law_161 (lv_at hl 1 rfl) ?_
      refine r_icmp_eq (pc := 163) (a := 0) (b := 0) hx hb dL_law_163 (tgt := 168) (by decide) ⟨by omega, by omega⟩ ⟨by omega, by omega⟩ (fun c_163 => ?_) (fun c_163 => ?_)
      · have c_163_ := c_163
        refine lv_iload (pc := 168) hx hb dL_law_168 (lv_at hl 1 rfl) ?_
        refine r_if_ne (pc := 170) (a := 0) hx hb dL_law_170 (tgt := 185) (by decide) ⟨by omega, by omega⟩ (fun c_170 => ?_) (fun c_170 => ?_)
        · exact absurd c_170 (by decide)
        · have c_170_ := c_170
          refine lv_aload_n (pc := 173) hx hb dL_law_173 rfl (lv_at hl 6 rfl) ?_
          refine lv_iconst (pc := 174) (v := iv 0) hx hb dL_law_174 rfl ?_
          refine r_jald (pc := 175) (z := 0) hC hK hP wM_out ⟨by decide, by decide, by decide⟩ dL_law_175 ?_
          rw [show (va_up g 0 (n 0 + 1)) (Int.toNat 0) = n 0 + 1 from va_up_self _ _ _]
          refine lv_iload (pc := 176) hx hb dL_law_176 (lv_at hl 0 rfl) ?_
          refine lv_i2l (pc := 178) (v := jv (n 0 + 1)) hx hb dL_law_178 (iv_long _ ⟨by omega, by omega⟩) ?_
          refine W.lcmp (pc := 179) (x := jv (n 0 + 1)) (y := jv (n 0 + 1)) hx hb dL_law_179 ?_
          rw [lg_cmp_jv ⟨by omega, by omega⟩ ⟨by omega, by omega⟩]
          have hcm_179 := cmpI_self (n 0 + 1)
          refine r_if_eq (pc := 180) (a := cmpI (n 0 + 1) (n 0 + 1)) hx hb dL_law_180 (tgt := 185) (by decide) ⟨by omega, by omega⟩ (fun c_180 => ?_) (fun c_180 => ?_)
          · have c_180_ := c_180
            refine lv_goto (pc := 185) (tgt := 1396) hx hb dL_law_185 (by decide) ?_
            refine W.widen (k := 40 + 20 * (k + 1)) (n := 5000 + 3400 * (k + 1)) (by show 40 + 20 * k + 2 + 0 + 0 ≤ _; omega) (by show 5000 + 3400 * k + 12 + 0 + 0 ≤ _; omega) ?_
            exact nx (va_up (va_up n 5 0) 0 (n 0 + 1)) (va_up G 0 (va_up (G 0) (n 0).toNat t)) (va_up g 0 (n 0 + 1)) L2 f2 ρ2 _ _ _ ⟨INV.phase (INV.n5 (c := 0) hI) hc9.2 hc9.1, (show n 3 ≤ ((k + 1 : Nat) : Int) by omega), RX.num hR2 rfl rfl rfl rfl rfl⟩ hP hD hS (lv_sub hl [2, 3, 4, 5, 6] rfl)
          · have c_180_ := c_180
            exact absurd (cmpI_self _) c_180
      · exact absurd c_163 (by decide)
  · obtain ⟨hc9, hv_, L2, f2, ρ2, hw_, hR2⟩ := hq
    rw [hw_, List.append_assoc] at hP hD
    rw [hv_]
    clear hv_ hw_
    dsimp only [Option.toList, List.cons_append, List.nil_append]
    refine lv_istore (lv' := [(5, .int (iv 1)), (4, .int (iv (7 * (k : Int)))), (0, .ref b), (1, .ref x), (2, .ref m0), (3, .ref o)]) (pc := 143) hx hb dL_law_143 hl (by decide) rfl (fun ls hl => ?_)
    refine lv_aload_n (pc := 145) hx hb dL_law_145 rfl (lv_at hl 4 rfl) ?_
    refine lv_aload_n (pc := 146) hx hb dL_law_146 rfl (lv_at hl 2 rfl) ?_
    refine lv_iload (pc := 147) hx hb dL_law_147 (lv_at hl 1 rfl) ?_
    refine lv_iconst (pc := 149) (v := iv 1) hx hb dL_law_149 rfl ?_
    refine r_iadd (pc := 150) (a := 7 * (k : Int)) (b := 1) hx hb dL_law_150 ?_
    refine r_sld (pc := 151) (z := (7 * (k : Int)) + 1) (v := t) hC hX hbl hbA hS ⟨by omega, by omega, by omega⟩ hz_t dL_law_151 ?_
    refine c_callV (pc := 152) (y := yX5_phase) (As := [.int (iv t)]) (rest := []) hC hE hP hD hS hl.1 (c_m_phase l ε m0 ad n G ([(o, eJ ε 1 g)] ++ va_pl L2 f2) t rt hI.1) m_2_24 m_3_0 m_3_1 m_0_5 m_3_2 wM_o rfl hd_yX5_phase rfl ⟨⟨by decide, by decide⟩, (by show 40 + 20 * k + 2 + 0 ≤ 601024; omega), (by show 5000 + 3400 * k + 12 + 0 ≤ 7293034; omega)⟩ (Nat.le_of_ble_eq_true rfl) rfl dL_law_152 kxN (fun v9 w9 H locs hq hP hD hS => ?_)
    rcases hq with hq | hq | hq
    · obtain ⟨hd9, hv_, hw_⟩ := hq
      rw [hw_] at hP hD
      rw [hv_]
      clear hv_ hw_
      dsimp only [Option.toList, List.cons_append, List.nil_append]
      refine lv_istore (lv' := [(6, .int (iv 0)), (5, .int (iv 1)), (4, .int (iv (7 * (k : Int)))), (0, .ref b), (1, .ref x), (2, .ref m0), (3, .ref o)]) (pc := 155) hx hb dL_law_155 hl (by decide) rfl (fun ls hl => ?_)
      refine lv_aload_n (pc := 157) hx hb dL_law_157 rfl (lv_at hl 5 rfl) ?_
      refine c_callV (pc := 158) (y := yX5_thrown) (As := []) (rest := []) hC hE hP hD hS hl.1 (c_m_thrown l ε m0 ad (va_up n 5 1) G ([(o, eJ ε 1 g)] ++ va_pl L2 f2)) m_3_8 m_3_9 m_3_10 m_0_5 m_3_11 wM_o rfl hd_yX5_thrown rfl ⟨⟨by decide, by decide⟩, (by show 40 + 20 * k + 2 + 0 + 0 ≤ 601024; omega), (by show 5000 + 3400 * k + 12 + 0 + 0 ≤ 7293034; omega)⟩ (Nat.le_of_ble_eq_true rfl) rfl dL_law_158 kxN (fun v9 w9 H locs hq hP hD hS => ?_)
      rw [hq.2] at hP hD
      rw [hq.1]
      dsimp only [Option.toList, List.cons_append, List.nil_append]
      rw [show (va_up n 5 1) 5 = 1 from rfl]
      refine lv_iload (pc := 161) hx hb dL_law_161 (lv_at hl 1 rfl) ?_
      refine r_icmp_eq (pc := 163) (a := 1) (b := 1) hx hb dL_law_163 (tgt := 168) (by decide) ⟨by omega, by omega⟩ ⟨by omega, by omega⟩ (fun c_163 => ?_) (fun c_163 => ?_)
      · have c_163_ := c_163
        refine lv_iload (pc := 168) hx hb dL_law_168 (lv_at hl 1 rfl) ?_
        refine r_if_ne (pc := 170) (a := 1) hx hb dL_law_170 (tgt := 185) (by decide) ⟨by omega, by omega⟩ (fun c_170 => ?_) (fun c_170 => ?_)
        · have c_170_ := c_170
          refine lv_goto (pc := 185) (tgt := 1396) hx hb dL_law_185 (by decide) ?_
          refine W.widen (k := 40 + 20 * (k + 1)) (n := 5000 + 3400 * (k + 1)) (by show 40 + 20 * k + 2 + 0 + 0 ≤ _; omega) (by show 5000 + 3400 * k + 12 + 0 + 0 ≤ _; omega) ?_
          exact nx (va_up n 5 1) G g L2 f2 ρ2 _ _ _ ⟨INV.n5 hI, (show n 3 ≤ ((k + 1 : Nat) : Int) by omega), RX.num hR2 rfl rfl rfl rfl rfl⟩ hP hD hS (lv_sub hl [2, 3, 4, 5, 6] rfl)
        · exact absurd c_170 (by decide)
      · exact absurd c_163 (by decide)
    · obtain ⟨hd9, hv_, hw_⟩ := hq
      clear hC hE hK hx hb hI hR hR2 nx hP hD hS hl hX
      exfalso
      omega
    · obtain ⟨hd9, hv_, hw_⟩ := hq
      clear hC hE hK hx hb hI hR hR2 nx hP hD hS hl hX
      exfalso
      omega
  · obtain ⟨hc9, hv_, L2, f2, ρ2, hw_, hR2⟩ := hq
    rw [hw_, List.append_assoc] at hP hD
    rw [hv_]
    clear hv_ hw_
    dsimp only [Option.toList, List.cons_append, List.nil_append]
    refine lv_istore (lv' := [(5, .int (iv 2)), (4, .int (iv (7 * (k : Int)))), (0, .ref b), (1, .ref x), (2, .ref m0), (3, .ref o)]) (pc := 143) hx hb dL_law_143 hl (by decide) rfl (fun ls hl => ?_)
    refine lv_aload_n (pc := 145) hx hb dL_law_145 rfl (lv_at hl 4 rfl) ?_
    refine lv_aload_n (pc := 146) hx hb dL_law_146 rfl (lv_at hl 2 rfl) ?_
    refine lv_iload (pc := 147) hx hb dL_law_147 (lv_at hl 1 rfl) ?_
    refine lv_iconst (pc := 149) (v := iv 1) hx hb dL_law_149 rfl ?_
    refine r_iadd (pc := 150) (a := 7 * (k : Int)) (b := 1) hx hb dL_law_150 ?_
    refine r_sld (pc := 151) (z := (7 * (k : Int)) + 1) (v := t) hC hX hbl hbA hS ⟨by omega, by omega, by omega⟩ hz_t dL_law_151 ?_
    refine c_callV (pc := 152) (y := yX5_phase) (As := [.int (iv t)]) (rest := []) hC hE hP hD hS hl.1 (c_m_phase l ε m0 ad n G ([(o, eJ ε 1 g)] ++ va_pl L2 f2) t rt hI.1) m_2_24 m_3_0 m_3_1 m_0_5 m_3_2 wM_o rfl hd_yX5_phase rfl ⟨⟨by decide, by decide⟩, (by show 40 + 20 * k + 2 + 0 ≤ 601024; omega), (by show 5000 + 3400 * k + 12 + 0 ≤ 7293034; omega)⟩ (Nat.le_of_ble_eq_true rfl) rfl dL_law_152 kxN (fun v9 w9 H locs hq hP hD hS => ?_)
    rcases hq with hq | hq | hq
    · obtain ⟨hd9, hv_, hw_⟩ := hq
      clear hC hE hK hx hb hI hR hR2 nx hP hD hS hl hX
      exfalso
      omega
    · obtain ⟨hd9, hv_, hw_⟩ := hq
      rw [hw_] at hP hD
      rw [hv_]
      clear hv_ hw_
      dsimp only [Option.toList, List.cons_append, List.nil_append]
      refine lv_istore (lv' := [(6, .int (iv 0)), (5, .int (iv 2)), (4, .int (iv (7 * (k : Int)))), (0, .ref b), (1, .ref x), (2, .ref m0), (3, .ref o)]) (pc := 155) hx hb dL_law_155 hl (by decide) rfl (fun ls hl => ?_)
      refine lv_aload_n (pc := 157) hx hb dL_law_157 rfl (lv_at hl 5 rfl) ?_
      refine c_callV (pc := 158) (y := yX5_thrown) (As := []) (rest := []) hC hE hP hD hS hl.1 (c_m_thrown l ε m0 ad (va_up n 5 2) G ([(o, eJ ε 1 g)] ++ va_pl L2 f2)) m_3_8 m_3_9 m_3_10 m_0_5 m_3_11 wM_o rfl hd_yX5_thrown rfl ⟨⟨by decide, by decide⟩, (by show 40 + 20 * k + 2 + 0 + 0 ≤ 601024; omega), (by show 5000 + 3400 * k + 12 + 0 + 0 ≤ 7293034; omega)⟩ (Nat.le_of_ble_eq_true rfl) rfl dL_law_158 kxN (fun v9 w9 H locs hq hP hD hS => ?_)
      rw [hq.2] at hP hD
      rw [hq.1]
      dsimp only [Option.toList, List.cons_append, List.nil_append]
      rw [show (va_up n 5 2) 5 = 2 from rfl]
      refine lv_iload (pc := 161) hx hb dL_law_161 (lv_at hl 1 rfl) ?_
      refine r_icmp_eq (pc := 163) (a := 2) (b := 2) hx hb dL_law_163 (tgt := 168) (by decide) ⟨by omega, by omega⟩ ⟨by omega, by omega⟩ (fun c_163 => ?_) (fun c_163 => ?_)
      · have c_163_ := c_163
        refine lv_iload (pc := 168) hx hb dL_law_168 (lv_at hl 1 rfl) ?_
        refine r_if_ne (pc := 170) (a := 2) hx hb dL_law_170 (tgt := 185) (by decide) ⟨by omega, by omega⟩ (fun c_170 => ?_) (fun c_170 => ?_)
        · have c_170_ := c_170
          refine lv_goto (pc := 185) (tgt := 1396) hx hb dL_law_185 (by decide) ?_
          refine W.widen (k := 40 + 20 * (k + 1)) (n := 5000 + 3400 * (k + 1)) (by show 40 + 20 * k + 2 + 0 + 0 ≤ _; omega) (by show 5000 + 3400 * k + 12 + 0 + 0 ≤ _; omega) ?_
          exact nx (va_up n 5 2) G g L2 f2 ρ2 _ _ _ ⟨INV.n5 hI, (show n 3 ≤ ((k + 1 : Nat) : Int) by omega), RX.num hR2 rfl rfl rfl rfl rfl⟩ hP hD hS (lv_sub hl [2, 3, 4, 5, 6] rfl)
        · exact absurd c_170 (by decide)
      · exact absurd c_163 (by decide)
    · obtain ⟨hd9, hv_, hw_⟩ := hq
      clear hC hE hK hx hb hI hR hR2 nx hP hD hS hl hX
      exfalso
      omega

set_option maxRecDepth 100000 in
set_option maxHeartbeats 4000000 in
theorem law_c1 {p : Program} {l : Launch} {e : Env} {s : State} {m : MethodId} {b N : Nat} {xs : Nat → Int32} {below : List Frame} {meth : Method} {c : Code} {ε : EV} {x m0 : Nat} {ad : Nat → Nat} {o : Nat} {Q : State → Prop} {k : Nat} (h0 : LCX p l s m b N xs meth c ε k) (nx : LAT p l e s m b below meth c ε x m0 ad o Q 1396 k (k + 1)) : LAT p l e s m b below meth c ε x m0 ad o Q 188 k k := by
  intro n G g L f ρ H locs ls hW hP hD hS hl
  obtain ⟨hI, h3, hR⟩ := hW
  obtain ⟨⟨nm9, tb9, hC⟩, hE, hst, hX, hbl, hbA, hN1, hN2⟩ := h0
  have hx := hC.1
  have hb := hC.2.1
  have hK := hE.K
  have hnb := hI.NB
  refine lv_aload_n (pc := 188) hx hb dL_law_188 rfl (lv_at hl 2 rfl) ?_
  refine lv_aload_n (pc := 189) hx hb dL_law_189 rfl (lv_at hl 4 rfl) ?_
  replace hP : WP ε ((wM ε m0 ad n G ++ [(o, eJ ε 1 g)]) ++ va_pl L f) H := by rw [List.append_assoc]; exact hP
  replace hD : WD ε ((wM ε m0 ad n G ++ [(o, eJ ε 1 g)]) ++ va_pl L f) := by rw [List.append_assoc]; exact hD
  refine c_callSW (pc := 190) (y := yL_pattern) (hh := [(0, 8, 11, 15)]) (As := [.ref x, .ref o]) (rest := []) hC hE hP hD hS hl.1 (c_L_pattern l ε (wM ε m0 ad n G) o g L f ρ hst x n G hR hI ) m_3_12 m_3_13 m_2_9 m_3_14 hd_yL_pattern rfl ⟨⟨by decide, by decide⟩, (by show 40 + 20 * k + 5 ≤ 601024; omega), (by show 5000 + 3400 * k + 3100 ≤ 7293034; omega)⟩ (Nat.le_of_ble_eq_true rfl) rfl dL_law_190 kxN (fun v9 w9 H locs hq hP hD hS => ?_)
  rcases hq with hq | hq
  · obtain ⟨hc9, hv_, L2, f2, ρ2, hw_, hR2⟩ := hq
    rw [hw_, List.append_assoc] at hP hD
    rw [hv_]
    clear hv_ hw_
    dsimp only [Option.toList, List.cons_append, List.nil_append]
    refine lv_istore (lv' := [(5, .int (iv 0)), (4, .int (iv (7 * (k : Int)))), (0, .ref b), (1, .ref x), (2, .ref m0), (3, .ref o)]) (pc := 193) hx hb dL_law_193 hl (by decide) rfl (fun ls hl => ?_)
    refine lv_aload_n (pc := 195) hx hb dL_law_195 rfl (lv_at hl 4 rfl) ?_
    refine c_callV (pc := 196) (y := yX5_pattern) (As := []) (rest := []) hC hE hP hD hS hl.1 (c_m_pattern l ε m0 ad n G ([(o, eJ ε 1 (va_up g 0 (n 1)))] ++ va_pl L2 f2) hI.1 hI.2.1.1) m_7_2 m_7_3 m_7_4 m_0_5 m_7_5 wM_o rfl hd_yX5_pattern rfl ⟨⟨by decide, by decide⟩, (by show 40 + 20 * k + 5 + 0 ≤ 601024; omega), (by show 5000 + 3400 * k + 3100 + 0 ≤ 7293034; omega)⟩ (Nat.le_of_ble_eq_true rfl) rfl dL_law_196 kxN (fun v9 w9 H locs hq hP hD hS => ?_)
    rcases hq with hq | hq
    · obtain ⟨hd9, hv_, hw_⟩ := hq
      clear hC hE hK hx hb hI hR hR2 nx hP hD hS hl hX
      exfalso
      omega
    · obtain ⟨hd9, hv_, hw_⟩ := hq
      rw [hw_] at hP hD
      rw [hv_]
      clear hv_ hw_
      dsimp only [Option.toList, List.cons_append, List.nil_append]
      refine lv_istore (lv' := [(6, .int (iv (n 1))), (5, .int (iv 0)), (4, .int (iv (7 * (k : Int)))), (0, .ref b), (1, .ref x), (2, .ref m0), (3, .ref o)]) (pc := 199) hx hb dL_law_199 hl (by decide) rfl (fun ls hl => ?_)
      refine lv_aload_n (pc := 201) hx hb dL_law_201 rfl (lv_at hl 5 rfl) ?_
      refine c_callV (pc := 202) (y := yX5_thrown) (As := []) (rest := []) hC hE hP hD hS hl.1 (c_m_thrown l ε m0 ad (va_up (va_up (va_up n 5 0) 0 0) 1 (n 1 + 1)) (GP n G) ([(o, eJ ε 1 (va_up g 0 (n 1)))] ++ va_pl L2 f2)) m_3_8 m_3_9 m_3_10 m_0_5 m_3_11 wM_o rfl hd_yX5_thrown rfl ⟨⟨by decide, by decide⟩, (by show 40 + 20 * k + 5 + 0 + 0 ≤ 601024; omega), (by show 5000 + 3400 * k + 3100 + 0 + 0 ≤ 7293034; omega)⟩ (Nat.le_of_ble_eq_true rfl) rfl dL_law_202 kxN (fun v9 w9 H locs hq hP hD hS => ?_)
      rw [hq.2] at hP hD
      rw [hq.1]
      dsimp only [Option.toList, List.cons_append, List.nil_append]
      rw [show (va_up (va_up (va_up n 5 0) 0 0) 1 (n 1 + 1)) 5 = 0 from rfl]
      refine lv_iload (pc := 205) hx hb dL_law_205 (lv_at hl 1 rfl) ?_
      refine r_icmp_eq (pc := 207) (a := 0) (b := 0) hx hb dL_law_207 (tgt := 212) (by decide) ⟨by omega, by omega⟩ ⟨by omega, by omega⟩ (fun c_207 => ?_) (fun c_207 => ?_)
      · have c_207_ := c_207
        refine lv_iload (pc := 212) hx hb dL_law_212 (lv_at hl 1 rfl) ?_
        refine r_if_ne (pc := 214) (a := 0) hx hb dL_law_214 (tgt := 229) (by decide) ⟨by omega, by omega⟩ (fun c_214 => ?_) (fun c_214 => ?_)
        · exact absurd c_214 (by decide)
        · have c_214_ := c_214
          refine lv_aload_n (pc := 217) hx hb dL_law_217 rfl (lv_at hl 6 rfl) ?_
          refine lv_iconst (pc := 218) (v := iv 0) hx hb dL_law_218 rfl ?_
          refine r_jald (pc := 219) (z := 0) hC hK hP wM_out ⟨by decide, by decide, by decide⟩ dL_law_219 ?_
          rw [show (va_up g 0 (n 1)) (Int.toNat 0) = n 1 from va_up_self _ _ _]
          refine lv_iload (pc := 220) hx hb dL_law_220 (lv_at hl 0 rfl) ?_
          refine lv_i2l (pc := 222) (v := jv (n 1)) hx hb dL_law_222 (iv_long _ ⟨by omega, by omega⟩) ?_
          refine W.lcmp (pc := 223) (x := jv (n 1)) (y := jv (n 1)) hx hb dL_law_223 ?_
          rw [lg_cmp_jv ⟨by omega, by omega⟩ ⟨by omega, by omega⟩]
          have hcm_223 := cmpI_self (n 1)
          refine r_if_eq (pc := 224) (a := cmpI (n 1) (n 1)) hx hb dL_law_224 (tgt := 229) (by decide) ⟨by omega, by omega⟩ (fun c_224 => ?_) (fun c_224 => ?_)
          · have c_224_ := c_224
            refine lv_goto (pc := 229) (tgt := 1396) hx hb dL_law_229 (by decide) ?_
            refine W.widen (k := 40 + 20 * (k + 1)) (n := 5000 + 3400 * (k + 1)) (by show 40 + 20 * k + 5 + 0 + 0 ≤ _; omega) (by show 5000 + 3400 * k + 3100 + 0 + 0 ≤ _; omega) ?_
            exact nx (va_up (va_up (va_up n 5 0) 0 0) 1 (n 1 + 1)) (GP n G) (va_up g 0 (n 1)) L2 f2 ρ2 _ _ _ ⟨INV.pattern (INV.n5 (c := 0) hI) hc9.1 hc9.2, (show n 3 ≤ ((k + 1 : Nat) : Int) by omega), RX.num hR2 rfl rfl rfl rfl rfl⟩ hP hD hS (lv_sub hl [2, 3, 4, 5, 6] rfl)
          · have c_224_ := c_224
            exact absurd (cmpI_self _) c_224
      · exact absurd c_207 (by decide)
  · obtain ⟨hc9, hv_, L2, f2, ρ2, hw_, hR2⟩ := hq
    rw [hw_, List.append_assoc] at hP hD
    rw [hv_]
    clear hv_ hw_
    dsimp only [Option.toList, List.cons_append, List.nil_append]
    refine lv_istore (lv' := [(5, .int (iv 1)), (4, .int (iv (7 * (k : Int)))), (0, .ref b), (1, .ref x), (2, .ref m0), (3, .ref o)]) (pc := 193) hx hb dL_law_193 hl (by decide) rfl (fun ls hl => ?_)
    refine lv_aload_n (pc := 195) hx hb dL_law_195 rfl (lv_at hl 4 rfl) ?_
    refine c_callV (pc := 196) (y := yX5_pattern) (As := []) (rest := []) hC hE hP hD hS hl.1 (c_m_pattern l ε m0 ad n G ([(o, eJ ε 1 g)] ++ va_pl L2 f2) hI.1 hI.2.1.1) m_7_2 m_7_3 m_7_4 m_0_5 m_7_5 wM_o rfl hd_yX5_pattern rfl ⟨⟨by decide, by decide⟩, (by show 40 + 20 * k + 5 + 0 ≤ 601024; omega), (by show 5000 + 3400 * k + 3100 + 0 ≤ 7293034; omega)⟩ (Nat.le_of_ble_eq_true rfl) rfl dL_law_196 kxN (fun v9 w9 H locs hq hP hD hS => ?_)
    rcases hq with hq | hq
    · obtain ⟨hd9, hv_, hw_⟩ := hq
      rw [hw_] at hP hD
      rw [hv_]
      clear hv_ hw_
      dsimp only [Option.toList, List.cons_append, List.nil_append]
      refine lv_istore (lv' := [(6, .int (iv 0)), (5, .int (iv 1)), (4, .int (iv (7 * (k : Int)))), (0, .ref b), (1, .ref x), (2, .ref m0), (3, .ref o)]) (pc := 199) hx hb dL_law_199 hl (by decide) rfl (fun ls hl => ?_)
      refine lv_aload_n (pc := 201) hx hb dL_law_201 rfl (lv_at hl 5 rfl) ?_
      refine c_callV (pc := 202) (y := yX5_thrown) (As := []) (rest := []) hC hE hP hD hS hl.1 (c_m_thrown l ε m0 ad (va_up n 5 1) G ([(o, eJ ε 1 g)] ++ va_pl L2 f2)) m_3_8 m_3_9 m_3_10 m_0_5 m_3_11 wM_o rfl hd_yX5_thrown rfl ⟨⟨by decide, by decide⟩, (by show 40 + 20 * k + 5 + 0 + 0 ≤ 601024; omega), (by show 5000 + 3400 * k + 3100 + 0 + 0 ≤ 7293034; omega)⟩ (Nat.le_of_ble_eq_true rfl) rfl dL_law_202 kxN (fun v9 w9 H locs hq hP hD hS => ?_)
      rw [hq.2] at hP hD
      rw [hq.1]
      dsimp only [Option.toList, List.cons_append, List.nil_append]
      rw [show (va_up n 5 1) 5 = 1 from rfl]
      refine lv_iload (pc := 205) hx hb dL_law_205 (lv_at hl 1 rfl) ?_
      refine r_icmp_eq (pc := 207) (a := 1) (b := 1) hx hb dL_law_207 (tgt := 212) (by decide) ⟨by omega, by omega⟩ ⟨by omega, by omega⟩ (fun c_207 => ?_) (fun c_207 => ?_)
      · have c_207_ := c_207
        refine lv_iload (pc := 212) hx hb dL_law_212 (lv_at hl 1 rfl) ?_
        refine r_if_ne (pc := 214) (a := 1) hx hb dL_law_214 (tgt := 229) (by decide) ⟨by omega, by omega⟩ (fun c_214 => ?_) (fun c_214 => ?_)
        · have c_214_ := c_214
          refine lv_goto (pc := 229) (tgt := 1396) hx hb dL_law_229 (by decide) ?_
          refine W.widen (k := 40 + 20 * (k + 1)) (n := 5000 + 3400 * (k + 1)) (by show 40 + 20 * k + 5 + 0 + 0 ≤ _; omega) (by show 5000 + 3400 * k + 3100 + 0 + 0 ≤ _; omega) ?_
          exact nx (va_up n 5 1) G g L2 f2 ρ2 _ _ _ ⟨INV.n5 hI, (show n 3 ≤ ((k + 1 : Nat) : Int) by omega), RX.num hR2 rfl rfl rfl rfl rfl⟩ hP hD hS (lv_sub hl [2, 3, 4, 5, 6] rfl)
        · exact absurd c_214 (by decide)
      · exact absurd c_207 (by decide)
    · obtain ⟨hd9, hv_, hw_⟩ := hq
      clear hC hE hK hx hb hI hR hR2 nx hP hD hS hl hX
      exfalso
      omega

set_option maxRecDepth 100000 in
set_option maxHeartbeats 4000000 in
theorem law_c2 {p : Program} {l : Launch} {e : Env} {s : State} {m : MethodId} {b N : Nat} {xs : Nat → Int32} {below : List Frame} {meth : Method} {c : Code} {ε : EV} {x m0 : Nat} {ad : Nat → Nat} {o : Nat} {Q : State → Prop} {k : Nat} (h0 : LCX p l s m b N xs meth c ε k) (nx : LAT p l e s m b below meth c ε x m0 ad o Q 1396 k (k + 1)) : LAT p l e s m b below meth c ε x m0 ad o Q 232 k k := by
  intro n G g L f ρ H locs ls hW hP hD hS hl
  obtain ⟨hI, h3, hR⟩ := hW
  obtain ⟨⟨nm9, tb9, hC⟩, hE, hst, hX, hbl, hbA, hN1, hN2⟩ := h0
  have hx := hC.1
  have hb := hC.2.1
  have hK := hE.K
  have hnb := hI.NB
  obtain ⟨q, hz_q⟩ : ∃ z : Int, z = ZZ xs (7 * (k : Int) + 1) := ⟨_, rfl⟩
  have rq : rg q := by rw [hz_q]; exact ZZ_rg _ _
  refine lv_aload_n (pc := 232) hx hb dL_law_232 rfl (lv_at hl 2 rfl) ?_
  refine lv_aload_n (pc := 233) hx hb dL_law_233 rfl (lv_at hl 1 rfl) ?_
  refine lv_iload (pc := 234) hx hb dL_law_234 (lv_at hl 0 rfl) ?_
  refine lv_iconst (pc := 236) (v := iv 1) hx hb dL_law_236 rfl ?_
  refine r_iadd (pc := 237) (a := 7 * (k : Int)) (b := 1) hx hb dL_law_237 ?_
  refine r_sld (pc := 238) (z := (7 * (k : Int)) + 1) (v := q) hC hX hbl hbA hS ⟨by omega, by omega, by omega⟩ hz_q dL_law_238 ?_
  refine lv_aload_n (pc := 239) hx hb dL_law_239 rfl (lv_at hl 4 rfl) ?_
  replace hP : WP ε ((wM ε m0 ad n G ++ [(o, eJ ε 1 g)]) ++ va_pl L f) H := by rw [List.append_assoc]; exact hP
  replace hD : WD ε ((wM ε m0 ad n G ++ [(o, eJ ε 1 g)]) ++ va_pl L f) := by rw [List.append_assoc]; exact hD
  refine c_callSW (pc := 240) (y := yL_period) (hh := [(0, 9, 12, 24)]) (As := [.ref x, .int (iv q), .ref o]) (rest := []) hC hE hP hD hS hl.1 (c_L_period l ε (wM ε m0 ad n G) o g L f ρ hst x n G hR hI q rq) m_7_7 m_7_8 m_2_9 m_7_9 hd_yL_period rfl ⟨⟨by decide, by decide⟩, (by show 40 + 20 * k + 1 ≤ 601024; omega), (by show 5000 + 3400 * k + 6 ≤ 7293034; omega)⟩ (Nat.le_of_ble_eq_true rfl) rfl dL_law_240 kxN (fun v9 w9 H locs hq hP hD hS => ?_)
  rcases hq with hq | hq
  · obtain ⟨hc9, hv_, L2, f2, ρ2, hw_, hR2⟩ := hq
    rw [hw_, List.append_assoc] at hP hD
    rw [hv_]
    clear hv_ hw_
    dsimp only [Option.toList, List.cons_append, List.nil_append]
    refine lv_istore (lv' := [(5, .int (iv 0)), (4, .int (iv (7 * (k : Int)))), (0, .ref b), (1, .ref x), (2, .ref m0), (3, .ref o)]) (pc := 243) hx hb dL_law_243 hl (by decide) rfl (fun ls hl => ?_)
    refine lv_aload_n (pc := 245) hx hb dL_law_245 rfl (lv_at hl 4 rfl) ?_
    refine lv_aload_n (pc := 246) hx hb dL_law_246 rfl (lv_at hl 2 rfl) ?_
    refine lv_iload (pc := 247) hx hb dL_law_247 (lv_at hl 1 rfl) ?_
    refine lv_iconst (pc := 249) (v := iv 1) hx hb dL_law_249 rfl ?_
    refine r_iadd (pc := 250) (a := 7 * (k : Int)) (b := 1) hx hb dL_law_250 ?_
    refine r_sld (pc := 251) (z := (7 * (k : Int)) + 1) (v := q) hC hX hbl hbA hS ⟨by omega, by omega, by omega⟩ hz_q dL_law_251 ?_
    refine c_callV (pc := 252) (y := yX5_period) (As := [.int (iv q)]) (rest := []) hC hE hP hD hS hl.1 (c_m_period l ε m0 ad n G ([(o, eJ ε 1 (va_up g 0 (G 3 q.toNat)))] ++ va_pl L2 f2) q rq hI.2.1 hI.2.2.1) m_8_18 m_8_19 m_8_20 m_0_5 m_8_21 wM_o rfl hd_yX5_period rfl ⟨⟨by decide, by decide⟩, (by show 40 + 20 * k + 1 + 0 ≤ 601024; omega), (by show 5000 + 3400 * k + 6 + 0 ≤ 7293034; omega)⟩ (Nat.le_of_ble_eq_true rfl) rfl dL_law_252 kxN (fun v9 w9 H locs hq hP hD hS => ?_)
    rcases hq with hq | hq
    · obtain ⟨hd9, hv_, hw_⟩ := hq
      clear hC hE hK hx hb hI hR hR2 nx hP hD hS hl hX
      exfalso
      omega
    · obtain ⟨hd9, hv_, hw_⟩ := hq
      rw [hw_] at hP hD
      rw [hv_]
      clear hv_ hw_
      dsimp only [Option.toList, List.cons_append, List.nil_append]
      have hpe := (hI.2.1.q hc9.1 hc9.2).per
      refine lv_istore (lv' := [(6, .int (iv (G 3 q.toNat))), (5, .int (iv 0)), (4, .int (iv (7 * (k : Int)))), (0, .ref b), (1, .ref x), (2, .ref m0), (3, .ref o)]) (pc := 255) hx hb dL_law_255 hl (by decide) rfl (fun ls hl => ?_)
      refine lv_aload_n (pc := 257) hx hb dL_law_257 rfl (lv_at hl 5 rfl) ?_
      refine c_callV (pc := 258) (y := yX5_thrown) (As := []) (rest := []) hC hE hP hD hS hl.1 (c_m_thrown l ε m0 ad (va_up n 5 0) G ([(o, eJ ε 1 (va_up g 0 (G 3 q.toNat)))] ++ va_pl L2 f2)) m_3_8 m_3_9 m_3_10 m_0_5 m_3_11 wM_o rfl hd_yX5_thrown rfl ⟨⟨by decide, by decide⟩, (by show 40 + 20 * k + 1 + 0 + 0 ≤ 601024; omega), (by show 5000 + 3400 * k + 6 + 0 + 0 ≤ 7293034; omega)⟩ (Nat.le_of_ble_eq_true rfl) rfl dL_law_258 kxN (fun v9 w9 H locs hq hP hD hS => ?_)
      rw [hq.2] at hP hD
      rw [hq.1]
      dsimp only [Option.toList, List.cons_append, List.nil_append]
      rw [show (va_up n 5 0) 5 = 0 from rfl]
      refine lv_iload (pc := 261) hx hb dL_law_261 (lv_at hl 1 rfl) ?_
      refine r_icmp_eq (pc := 263) (a := 0) (b := 0) hx hb dL_law_263 (tgt := 268) (by decide) ⟨by omega, by omega⟩ ⟨by omega, by omega⟩ (fun c_263 => ?_) (fun c_263 => ?_)
      · have c_263_ := c_263
        refine lv_iload (pc := 268) hx hb dL_law_268 (lv_at hl 1 rfl) ?_
        refine r_if_ne (pc := 270) (a := 0) hx hb dL_law_270 (tgt := 285) (by decide) ⟨by omega, by omega⟩ (fun c_270 => ?_) (fun c_270 => ?_)
        · exact absurd c_270 (by decide)
        · have c_270_ := c_270
          refine lv_aload_n (pc := 273) hx hb dL_law_273 rfl (lv_at hl 6 rfl) ?_
          refine lv_iconst (pc := 274) (v := iv 0) hx hb dL_law_274 rfl ?_
          refine r_jald (pc := 275) (z := 0) hC hK hP wM_out ⟨by decide, by decide, by decide⟩ dL_law_275 ?_
          rw [show (va_up g 0 (G 3 q.toNat)) (Int.toNat 0) = G 3 q.toNat from va_up_self _ _ _]
          refine lv_iload (pc := 276) hx hb dL_law_276 (lv_at hl 0 rfl) ?_
          refine lv_i2l (pc := 278) (v := jv (G 3 q.toNat)) hx hb dL_law_278 (iv_long _ ⟨by omega, by omega⟩) ?_
          refine W.lcmp (pc := 279) (x := jv (G 3 q.toNat)) (y := jv (G 3 q.toNat)) hx hb dL_law_279 ?_
          rw [lg_cmp_jv ⟨by omega, by omega⟩ ⟨by omega, by omega⟩]
          have hcm_279 := cmpI_self (G 3 q.toNat)
          refine r_if_eq (pc := 280) (a := cmpI (G 3 q.toNat) (G 3 q.toNat)) hx hb dL_law_280 (tgt := 285) (by decide) ⟨by omega, by omega⟩ (fun c_280 => ?_) (fun c_280 => ?_)
          · have c_280_ := c_280
            refine lv_goto (pc := 285) (tgt := 1396) hx hb dL_law_285 (by decide) ?_
            refine W.widen (k := 40 + 20 * (k + 1)) (n := 5000 + 3400 * (k + 1)) (by show 40 + 20 * k + 1 + 0 + 0 ≤ _; omega) (by show 5000 + 3400 * k + 6 + 0 + 0 ≤ _; omega) ?_
            exact nx (va_up n 5 0) G (va_up g 0 (G 3 q.toNat)) L2 f2 ρ2 _ _ _ ⟨INV.n5 hI, (show n 3 ≤ ((k + 1 : Nat) : Int) by omega), RX.num hR2 rfl rfl rfl rfl rfl⟩ hP hD hS (lv_sub hl [2, 3, 4, 5, 6] rfl)
          · have c_280_ := c_280
            exact absurd (cmpI_self _) c_280
      · exact absurd c_263 (by decide)
  · obtain ⟨hc9, hv_, L2, f2, ρ2, hw_, hR2⟩ := hq
    rw [hw_, List.append_assoc] at hP hD
    rw [hv_]
    clear hv_ hw_
    dsimp only [Option.toList, List.cons_append, List.nil_append]
    refine lv_istore (lv' := [(5, .int (iv 1)), (4, .int (iv (7 * (k : Int)))), (0, .ref b), (1, .ref x), (2, .ref m0), (3, .ref o)]) (pc := 243) hx hb dL_law_243 hl (by decide) rfl (fun ls hl => ?_)
    refine lv_aload_n (pc := 245) hx hb dL_law_245 rfl (lv_at hl 4 rfl) ?_
    refine lv_aload_n (pc := 246) hx hb dL_law_246 rfl (lv_at hl 2 rfl) ?_
    refine lv_iload (pc := 247) hx hb dL_law_247 (lv_at hl 1 rfl) ?_
    refine lv_iconst (pc := 249) (v := iv 1) hx hb dL_law_249 rfl ?_
    refine r_iadd (pc := 250) (a := 7 * (k : Int)) (b := 1) hx hb dL_law_250 ?_
    refine r_sld (pc := 251) (z := (7 * (k : Int)) + 1) (v := q) hC hX hbl hbA hS ⟨by omega, by omega, by omega⟩ hz_q dL_law_251 ?_
    refine c_callV (pc := 252) (y := yX5_period) (As := [.int (iv q)]) (rest := []) hC hE hP hD hS hl.1 (c_m_period l ε m0 ad n G ([(o, eJ ε 1 g)] ++ va_pl L2 f2) q rq hI.2.1 hI.2.2.1) m_8_18 m_8_19 m_8_20 m_0_5 m_8_21 wM_o rfl hd_yX5_period rfl ⟨⟨by decide, by decide⟩, (by show 40 + 20 * k + 1 + 0 ≤ 601024; omega), (by show 5000 + 3400 * k + 6 + 0 ≤ 7293034; omega)⟩ (Nat.le_of_ble_eq_true rfl) rfl dL_law_252 kxN (fun v9 w9 H locs hq hP hD hS => ?_)
    rcases hq with hq | hq
    · obtain ⟨hd9, hv_, hw_⟩ := hq
      rw [hw_] at hP hD
      rw [hv_]
      clear hv_ hw_
      dsimp only [Option.toList, List.cons_append, List.nil_append]
      refine lv_istore (lv' := [(6, .int (iv 0)), (5, .int (iv 1)), (4, .int (iv (7 * (k : Int)))), (0, .ref b), (1, .ref x), (2, .ref m0), (3, .ref o)]) (pc := 255) hx hb dL_law_255 hl (by decide) rfl (fun ls hl => ?_)
      refine lv_aload_n (pc := 257) hx hb dL_law_257 rfl (lv_at hl 5 rfl) ?_
      refine c_callV (pc := 258) (y := yX5_thrown) (As := []) (rest := []) hC hE hP hD hS hl.1 (c_m_thrown l ε m0 ad (va_up n 5 1) G ([(o, eJ ε 1 g)] ++ va_pl L2 f2)) m_3_8 m_3_9 m_3_10 m_0_5 m_3_11 wM_o rfl hd_yX5_thrown rfl ⟨⟨by decide, by decide⟩, (by show 40 + 20 * k + 1 + 0 + 0 ≤ 601024; omega), (by show 5000 + 3400 * k + 6 + 0 + 0 ≤ 7293034; omega)⟩ (Nat.le_of_ble_eq_true rfl) rfl dL_law_258 kxN (fun v9 w9 H locs hq hP hD hS => ?_)
      rw [hq.2] at hP hD
      rw [hq.1]
      dsimp only [Option.toList, List.cons_append, List.nil_append]
      rw [show (va_up n 5 1) 5 = 1 from rfl]
      refine lv_iload (pc := 261) hx hb dL_law_261 (lv_at hl 1 rfl) ?_
      refine r_icmp_eq (pc := 263) (a := 1) (b := 1) hx hb dL_law_263 (tgt := 268) (by decide) ⟨by omega, by omega⟩ ⟨by omega, by omega⟩ (fun c_263 => ?_) (fun c_263 => ?_)
      · have c_263_ := c_263
        refine lv_iload (pc := 268) hx hb dL_law_268 (lv_at hl 1 rfl) ?_
        refine r_if_ne (pc := 270) (a := 1) hx hb dL_law_270 (tgt := 285) (by decide) ⟨by omega, by omega⟩ (fun c_270 => ?_) (fun c_270 => ?_)
        · have c_270_ := c_270
          refine lv_goto (pc := 285) (tgt := 1396) hx hb dL_law_285 (by decide) ?_
          refine W.widen (k := 40 + 20 * (k + 1)) (n := 5000 + 3400 * (k + 1)) (by show 40 + 20 * k + 1 + 0 + 0 ≤ _; omega) (by show 5000 + 3400 * k + 6 + 0 + 0 ≤ _; omega) ?_
          exact nx (va_up n 5 1) G g L2 f2 ρ2 _ _ _ ⟨INV.n5 hI, (show n 3 ≤ ((k + 1 : Nat) : Int) by omega), RX.num hR2 rfl rfl rfl rfl rfl⟩ hP hD hS (lv_sub hl [2, 3, 4, 5, 6] rfl)
        · exact absurd c_270 (by decide)
      · exact absurd c_263 (by decide)
    · obtain ⟨hd9, hv_, hw_⟩ := hq
      clear hC hE hK hx hb hI hR hR2 nx hP hD hS hl hX
      exfalso
      omega

set_option maxRecDepth 100000 in
set_option maxHeartbeats 4000000 in
theorem law_c3 {p : Program} {l : Launch} {e : Env} {s : State} {m : MethodId} {b N : Nat} {xs : Nat → Int32} {below : List Frame} {meth : Method} {c : Code} {ε : EV} {x m0 : Nat} {ad : Nat → Nat} {o : Nat} {Q : State → Prop} {k : Nat} (h0 : LCX p l s m b N xs meth c ε k) (nx : LAT p l e s m b below meth c ε x m0 ad o Q 1396 k (k + 1)) : LAT p l e s m b below meth c ε x m0 ad o Q 288 k k := by
  intro n G g L f ρ H locs ls hW hP hD hS hl
  obtain ⟨hI, h3, hR⟩ := hW
  obtain ⟨⟨nm9, tb9, hC⟩, hE, hst, hX, hbl, hbA, hN1, hN2⟩ := h0
  have hx := hC.1
  have hb := hC.2.1
  have hK := hE.K
  have hnb := hI.NB
  obtain ⟨q, hz_q⟩ : ∃ z : Int, z = ZZ xs (7 * (k : Int) + 1) := ⟨_, rfl⟩
  have rq : rg q := by rw [hz_q]; exact ZZ_rg _ _
  obtain ⟨r, hz_r⟩ : ∃ z : Int, z = ZZ xs (7 * (k : Int) + 2) := ⟨_, rfl⟩
  have rr : rg r := by rw [hz_r]; exact ZZ_rg _ _
  refine lv_aload_n (pc := 288) hx hb dL_law_288 rfl (lv_at hl 2 rfl) ?_
  refine lv_aload_n (pc := 289) hx hb dL_law_289 rfl (lv_at hl 1 rfl) ?_
  refine lv_iload (pc := 290) hx hb dL_law_290 (lv_at hl 0 rfl) ?_
  refine lv_iconst (pc := 292) (v := iv 1) hx hb dL_law_292 rfl ?_
  refine r_iadd (pc := 293) (a := 7 * (k : Int)) (b := 1) hx hb dL_law_293 ?_
  refine r_sld (pc := 294) (z := (7 * (k : Int)) + 1) (v := q) hC hX hbl hbA hS ⟨by omega, by omega, by omega⟩ hz_q dL_law_294 ?_
  refine lv_aload_n (pc := 295) hx hb dL_law_295 rfl (lv_at hl 1 rfl) ?_
  refine lv_iload (pc := 296) hx hb dL_law_296 (lv_at hl 0 rfl) ?_
  refine lv_iconst (pc := 298) (v := iv 2) hx hb dL_law_298 rfl ?_
  refine r_iadd (pc := 299) (a := 7 * (k : Int)) (b := 2) hx hb dL_law_299 ?_
  refine r_sld (pc := 300) (z := (7 * (k : Int)) + 2) (v := r) hC hX hbl hbA hS ⟨by omega, by omega, by omega⟩ hz_r dL_law_300 ?_
  refine lv_aload_n (pc := 301) hx hb dL_law_301 rfl (lv_at hl 4 rfl) ?_
  replace hP : WP ε ((wM ε m0 ad n G ++ [(o, eJ ε 1 g)]) ++ va_pl L f) H := by rw [List.append_assoc]; exact hP
  replace hD : WD ε ((wM ε m0 ad n G ++ [(o, eJ ε 1 g)]) ++ va_pl L f) := by rw [List.append_assoc]; exact hD
  refine c_callSW (pc := 302) (y := yL_areAlike) (hh := [(0, 17, 20, 24)]) (As := [.ref x, .int (iv q), .int (iv r), .ref o]) (rest := []) hC hE hP hD hS hl.1 (c_L_areAlike l ε (wM ε m0 ad n G) o g L f ρ hst x n G hR hI q r rq rr) m_9_1 m_9_2 m_2_9 m_9_3 hd_yL_areAlike rfl ⟨⟨by decide, by decide⟩, (by show 40 + 20 * k + 2 ≤ 601024; omega), (by show 5000 + 3400 * k + 12 ≤ 7293034; omega)⟩ (Nat.le_of_ble_eq_true rfl) rfl dL_law_302 kxN (fun v9 w9 H locs hq hP hD hS => ?_)
  rcases hq with hq | hq
  · obtain ⟨hc9, hv_, L2, f2, ρ2, hw_, hR2⟩ := hq
    rw [hw_, List.append_assoc] at hP hD
    rw [hv_]
    clear hv_ hw_
    dsimp only [Option.toList, List.cons_append, List.nil_append]
    refine lv_istore (lv' := [(5, .int (iv 0)), (4, .int (iv (7 * (k : Int)))), (0, .ref b), (1, .ref x), (2, .ref m0), (3, .ref o)]) (pc := 305) hx hb dL_law_305 hl (by decide) rfl (fun ls hl => ?_)
    refine lv_aload_n (pc := 307) hx hb dL_law_307 rfl (lv_at hl 4 rfl) ?_
    refine lv_aload_n (pc := 308) hx hb dL_law_308 rfl (lv_at hl 2 rfl) ?_
    refine lv_iload (pc := 309) hx hb dL_law_309 (lv_at hl 1 rfl) ?_
    refine lv_iconst (pc := 311) (v := iv 1) hx hb dL_law_311 rfl ?_
    refine r_iadd (pc := 312) (a := 7 * (k : Int)) (b := 1) hx hb dL_law_312 ?_
    refine r_sld (pc := 313) (z := (7 * (k : Int)) + 1) (v := q) hC hX hbl hbA hS ⟨by omega, by omega, by omega⟩ hz_q dL_law_313 ?_
    refine lv_aload_n (pc := 314) hx hb dL_law_314 rfl (lv_at hl 2 rfl) ?_
    refine lv_iload (pc := 315) hx hb dL_law_315 (lv_at hl 1 rfl) ?_
    refine lv_iconst (pc := 317) (v := iv 2) hx hb dL_law_317 rfl ?_
    refine r_iadd (pc := 318) (a := 7 * (k : Int)) (b := 2) hx hb dL_law_318 ?_
    refine r_sld (pc := 319) (z := (7 * (k : Int)) + 2) (v := r) hC hX hbl hbA hS ⟨by omega, by omega, by omega⟩ hz_r dL_law_319 ?_
    refine c_callV (pc := 320) (y := yX5_areAlike) (As := [.int (iv q), .int (iv r)]) (rest := []) hC hE hP hD hS hl.1 (c_m_areAlike l ε m0 ad n G ([(o, eJ ε 1 (va_up g 0 (bz (tb (PH1 G q r)))))] ++ va_pl L2 f2) q r rq rr hI.2.1 hI.2.2.1) m_9_16 m_9_17 m_9_18 m_0_5 m_9_19 wM_o rfl hd_yX5_areAlike rfl ⟨⟨by decide, by decide⟩, (by show 40 + 20 * k + 2 + 0 ≤ 601024; omega), (by show 5000 + 3400 * k + 12 + 0 ≤ 7293034; omega)⟩ (Nat.le_of_ble_eq_true rfl) rfl dL_law_320 kxN (fun v9 w9 H locs hq hP hD hS => ?_)
    rcases hq with hq | hq
    · obtain ⟨hd9, hv_, hw_⟩ := hq
      clear hC hE hK hx hb hI hR hR2 nx hP hD hS hl hX
      exfalso
      omega
    · obtain ⟨hd9, hv_, hw_⟩ := hq
      rw [hw_] at hP hD
      rw [hv_]
      clear hv_ hw_
      dsimp only [Option.toList, List.cons_append, List.nil_append]
      rw [show tb (AK (LQ G q) (LQ G r) (G 3 q.toNat) (G 3 r.toNat)) = tb (PH1 G q r) from congrArg tb (propext (PH1_iff (hI.2.1.q hc9.1.1 hc9.1.2) (hI.2.1.q hc9.2.1 hc9.2.2)).symm)]
      refine lv_istore (lv' := [(6, .int (iv (bz (tb (PH1 G q r))))), (5, .int (iv 0)), (4, .int (iv (7 * (k : Int)))), (0, .ref b), (1, .ref x), (2, .ref m0), (3, .ref o)]) (pc := 323) hx hb dL_law_323 hl (by decide) rfl (fun ls hl => ?_)
      refine lv_aload_n (pc := 325) hx hb dL_law_325 rfl (lv_at hl 5 rfl) ?_
      refine c_callV (pc := 326) (y := yX5_thrown) (As := []) (rest := []) hC hE hP hD hS hl.1 (c_m_thrown l ε m0 ad (va_up n 5 0) G ([(o, eJ ε 1 (va_up g 0 (bz (tb (PH1 G q r)))))] ++ va_pl L2 f2)) m_3_8 m_3_9 m_3_10 m_0_5 m_3_11 wM_o rfl hd_yX5_thrown rfl ⟨⟨by decide, by decide⟩, (by show 40 + 20 * k + 2 + 0 + 0 ≤ 601024; omega), (by show 5000 + 3400 * k + 12 + 0 + 0 ≤ 7293034; omega)⟩ (Nat.le_of_ble_eq_true rfl) rfl dL_law_326 kxN (fun v9 w9 H locs hq hP hD hS => ?_)
      rw [hq.2] at hP hD
      rw [hq.1]
      dsimp only [Option.toList, List.cons_append, List.nil_append]
      rw [show (va_up n 5 0) 5 = 0 from rfl]
      refine lv_iload (pc := 329) hx hb dL_law_329 (lv_at hl 1 rfl) ?_
      refine r_icmp_eq (pc := 331) (a := 0) (b := 0) hx hb dL_law_331 (tgt := 336) (by decide) ⟨by omega, by omega⟩ ⟨by omega, by omega⟩ (fun c_331 => ?_) (fun c_331 => ?_)
      · have c_331_ := c_331
        refine lv_iload (pc := 336) hx hb dL_law_336 (lv_at hl 1 rfl) ?_
        refine r_if_ne (pc := 338) (a := 0) hx hb dL_law_338 (tgt := 360) (by decide) ⟨by omega, by omega⟩ (fun c_338 => ?_) (fun c_338 => ?_)
        · exact absurd c_338 (by decide)
        · have c_338_ := c_338
          refine lv_aload_n (pc := 341) hx hb dL_law_341 rfl (lv_at hl 6 rfl) ?_
          refine lv_iconst (pc := 342) (v := iv 0) hx hb dL_law_342 rfl ?_
          refine r_jald (pc := 343) (z := 0) hC hK hP wM_out ⟨by decide, by decide, by decide⟩ dL_law_343 ?_
          rw [show (va_up g 0 (bz (tb (PH1 G q r)))) (Int.toNat 0) = bz (tb (PH1 G q r)) from va_up_self _ _ _]
          refine lv_iload (pc := 344) hx hb dL_law_344 (lv_at hl 0 rfl) ?_
          refine r_if_b0 (pc := 346) (b := tb (PH1 G q r)) hx hb dL_law_346 (tgt := 353) (by decide)  (fun c_346 => ?_) (fun c_346 => ?_)
          · replace c_346 := tb_no c_346
            refine lv_lconst (pc := 353) (v := jv 0) hx hb dL_law_353 (by decide) ?_
            rw [show bz (tb (PH1 G q r)) = 0 by rw [tb_f c_346]; rfl]
            refine W.lcmp (pc := 354) (x := jv 0) (y := jv 0) hx hb dL_law_354 ?_
            rw [lg_cmp_jv ⟨by omega, by omega⟩ ⟨by omega, by omega⟩]
            have hcm_354 := cmpI_self 0
            refine r_if_eq (pc := 355) (a := cmpI 0 0) hx hb dL_law_355 (tgt := 360) (by decide) ⟨by omega, by omega⟩ (fun c_355 => ?_) (fun c_355 => ?_)
            · have c_355_ := c_355
              refine lv_goto (pc := 360) (tgt := 1396) hx hb dL_law_360 (by decide) ?_
              refine W.widen (k := 40 + 20 * (k + 1)) (n := 5000 + 3400 * (k + 1)) (by show 40 + 20 * k + 2 + 0 + 0 ≤ _; omega) (by show 5000 + 3400 * k + 12 + 0 + 0 ≤ _; omega) ?_
              exact nx (va_up n 5 0) G (va_up g 0 (bz (tb (PH1 G q r)))) L2 f2 ρ2 _ _ _ ⟨INV.n5 hI, (show n 3 ≤ ((k + 1 : Nat) : Int) by omega), RX.num hR2 rfl rfl rfl rfl rfl⟩ hP hD hS (lv_sub hl [2, 3, 4, 5, 6] rfl)
            · have c_355_ := c_355
              exact absurd (cmpI_self _) c_355
          · replace c_346 := tb_iff.mp c_346
            refine lv_lconst (pc := 349) (v := jv 1) hx hb dL_law_349 (by decide) ?_
            refine lv_goto (pc := 350) (tgt := 354) hx hb dL_law_350 (by decide) ?_
            rw [show bz (tb (PH1 G q r)) = 1 by rw [tb_t c_346]; rfl]
            refine W.lcmp (pc := 354) (x := jv 1) (y := jv 1) hx hb dL_law_354 ?_
            rw [lg_cmp_jv ⟨by omega, by omega⟩ ⟨by omega, by omega⟩]
            have hcm_354 := cmpI_self 1
            refine r_if_eq (pc := 355) (a := cmpI 1 1) hx hb dL_law_355 (tgt := 360) (by decide) ⟨by omega, by omega⟩ (fun c_355 => ?_) (fun c_355 => ?_)
            · have c_355_ := c_355
              refine lv_goto (pc := 360) (tgt := 1396) hx hb dL_law_360 (by decide) ?_
              refine W.widen (k := 40 + 20 * (k + 1)) (n := 5000 + 3400 * (k + 1)) (by show 40 + 20 * k + 2 + 0 + 0 ≤ _; omega) (by show 5000 + 3400 * k + 12 + 0 + 0 ≤ _; omega) ?_
              exact nx (va_up n 5 0) G (va_up g 0 (bz (tb (PH1 G q r)))) L2 f2 ρ2 _ _ _ ⟨INV.n5 hI, (show n 3 ≤ ((k + 1 : Nat) : Int) by omega), RX.num hR2 rfl rfl rfl rfl rfl⟩ hP hD hS (lv_sub hl [2, 3, 4, 5, 6] rfl)
            · have c_355_ := c_355
              exact absurd (cmpI_self _) c_355
      · exact absurd c_331 (by decide)
  · obtain ⟨hc9, hv_, L2, f2, ρ2, hw_, hR2⟩ := hq
    rw [hw_, List.append_assoc] at hP hD
    rw [hv_]
    clear hv_ hw_
    dsimp only [Option.toList, List.cons_append, List.nil_append]
    refine lv_istore (lv' := [(5, .int (iv 1)), (4, .int (iv (7 * (k : Int)))), (0, .ref b), (1, .ref x), (2, .ref m0), (3, .ref o)]) (pc := 305) hx hb dL_law_305 hl (by decide) rfl (fun ls hl => ?_)
    refine lv_aload_n (pc := 307) hx hb dL_law_307 rfl (lv_at hl 4 rfl) ?_
    refine lv_aload_n (pc := 308) hx hb dL_law_308 rfl (lv_at hl 2 rfl) ?_
    refine lv_iload (pc := 309) hx hb dL_law_309 (lv_at hl 1 rfl) ?_
    refine lv_iconst (pc := 311) (v := iv 1) hx hb dL_law_311 rfl ?_
    refine r_iadd (pc := 312) (a := 7 * (k : Int)) (b := 1) hx hb dL_law_312 ?_
    refine r_sld (pc := 313) (z := (7 * (k : Int)) + 1) (v := q) hC hX hbl hbA hS ⟨by omega, by omega, by omega⟩ hz_q dL_law_313 ?_
    refine lv_aload_n (pc := 314) hx hb dL_law_314 rfl (lv_at hl 2 rfl) ?_
    refine lv_iload (pc := 315) hx hb dL_law_315 (lv_at hl 1 rfl) ?_
    refine lv_iconst (pc := 317) (v := iv 2) hx hb dL_law_317 rfl ?_
    refine r_iadd (pc := 318) (a := 7 * (k : Int)) (b := 2) hx hb dL_law_318 ?_
    refine r_sld (pc := 319) (z := (7 * (k : Int)) + 2) (v := r) hC hX hbl hbA hS ⟨by omega, by omega, by omega⟩ hz_r dL_law_319 ?_
    refine c_callV (pc := 320) (y := yX5_areAlike) (As := [.int (iv q), .int (iv r)]) (rest := []) hC hE hP hD hS hl.1 (c_m_areAlike l ε m0 ad n G ([(o, eJ ε 1 g)] ++ va_pl L2 f2) q r rq rr hI.2.1 hI.2.2.1) m_9_16 m_9_17 m_9_18 m_0_5 m_9_19 wM_o rfl hd_yX5_areAlike rfl ⟨⟨by decide, by decide⟩, (by show 40 + 20 * k + 2 + 0 ≤ 601024; omega), (by show 5000 + 3400 * k + 12 + 0 ≤ 7293034; omega)⟩ (Nat.le_of_ble_eq_true rfl) rfl dL_law_320 kxN (fun v9 w9 H locs hq hP hD hS => ?_)
    rcases hq with hq | hq
    · obtain ⟨hd9, hv_, hw_⟩ := hq
      rw [hw_] at hP hD
      rw [hv_]
      clear hv_ hw_
      dsimp only [Option.toList, List.cons_append, List.nil_append]
      refine lv_istore (lv' := [(6, .int (iv 0)), (5, .int (iv 1)), (4, .int (iv (7 * (k : Int)))), (0, .ref b), (1, .ref x), (2, .ref m0), (3, .ref o)]) (pc := 323) hx hb dL_law_323 hl (by decide) rfl (fun ls hl => ?_)
      refine lv_aload_n (pc := 325) hx hb dL_law_325 rfl (lv_at hl 5 rfl) ?_
      refine c_callV (pc := 326) (y := yX5_thrown) (As := []) (rest := []) hC hE hP hD hS hl.1 (c_m_thrown l ε m0 ad (va_up n 5 1) G ([(o, eJ ε 1 g)] ++ va_pl L2 f2)) m_3_8 m_3_9 m_3_10 m_0_5 m_3_11 wM_o rfl hd_yX5_thrown rfl ⟨⟨by decide, by decide⟩, (by show 40 + 20 * k + 2 + 0 + 0 ≤ 601024; omega), (by show 5000 + 3400 * k + 12 + 0 + 0 ≤ 7293034; omega)⟩ (Nat.le_of_ble_eq_true rfl) rfl dL_law_326 kxN (fun v9 w9 H locs hq hP hD hS => ?_)
      rw [hq.2] at hP hD
      rw [hq.1]
      dsimp only [Option.toList, List.cons_append, List.nil_append]
      rw [show (va_up n 5 1) 5 = 1 from rfl]
      refine lv_iload (pc := 329) hx hb dL_law_329 (lv_at hl 1 rfl) ?_
      refine r_icmp_eq (pc := 331) (a := 1) (b := 1) hx hb dL_law_331 (tgt := 336) (by decide) ⟨by omega, by omega⟩ ⟨by omega, by omega⟩ (fun c_331 => ?_) (fun c_331 => ?_)
      · have c_331_ := c_331
        refine lv_iload (pc := 336) hx hb dL_law_336 (lv_at hl 1 rfl) ?_
        refine r_if_ne (pc := 338) (a := 1) hx hb dL_law_338 (tgt := 360) (by decide) ⟨by omega, by omega⟩ (fun c_338 => ?_) (fun c_338 => ?_)
        · have c_338_ := c_338
          refine lv_goto (pc := 360) (tgt := 1396) hx hb dL_law_360 (by decide) ?_
          refine W.widen (k := 40 + 20 * (k + 1)) (n := 5000 + 3400 * (k + 1)) (by show 40 + 20 * k + 2 + 0 + 0 ≤ _; omega) (by show 5000 + 3400 * k + 12 + 0 + 0 ≤ _; omega) ?_
          exact nx (va_up n 5 1) G g L2 f2 ρ2 _ _ _ ⟨INV.n5 hI, (show n 3 ≤ ((k + 1 : Nat) : Int) by omega), RX.num hR2 rfl rfl rfl rfl rfl⟩ hP hD hS (lv_sub hl [2, 3, 4, 5, 6] rfl)
        · exact absurd c_338 (by decide)
      · exact absurd c_331 (by decide)
    · obtain ⟨hd9, hv_, hw_⟩ := hq
      clear hC hE hK hx hb hI hR hR2 nx hP hD hS hl hX
      exfalso
      omega

set_option maxRecDepth 100000 in
set_option maxHeartbeats 4000000 in
theorem law_c4 {p : Program} {l : Launch} {e : Env} {s : State} {m : MethodId} {b N : Nat} {xs : Nat → Int32} {below : List Frame} {meth : Method} {c : Code} {ε : EV} {x m0 : Nat} {ad : Nat → Nat} {o : Nat} {Q : State → Prop} {k : Nat} (h0 : LCX p l s m b N xs meth c ε k) (nx : LAT p l e s m b below meth c ε x m0 ad o Q 1396 k (k + 1)) : LAT p l e s m b below meth c ε x m0 ad o Q 363 k k := by
  intro n G g L f ρ H locs ls hW hP hD hS hl
  obtain ⟨hI, h3, hR⟩ := hW
  obtain ⟨⟨nm9, tb9, hC⟩, hE, hst, hX, hbl, hbA, hN1, hN2⟩ := h0
  have hx := hC.1
  have hb := hC.2.1
  have hK := hE.K
  have hnb := hI.NB
  obtain ⟨q, hz_q⟩ : ∃ z : Int, z = ZZ xs (7 * (k : Int) + 1) := ⟨_, rfl⟩
  have rq : rg q := by rw [hz_q]; exact ZZ_rg _ _
  obtain ⟨r, hz_r⟩ : ∃ z : Int, z = ZZ xs (7 * (k : Int) + 2) := ⟨_, rfl⟩
  have rr : rg r := by rw [hz_r]; exact ZZ_rg _ _
  refine lv_aload_n (pc := 363) hx hb dL_law_363 rfl (lv_at hl 2 rfl) ?_
  refine lv_aload_n (pc := 364) hx hb dL_law_364 rfl (lv_at hl 1 rfl) ?_
  refine lv_iload (pc := 365) hx hb dL_law_365 (lv_at hl 0 rfl) ?_
  refine lv_iconst (pc := 367) (v := iv 1) hx hb dL_law_367 rfl ?_
  refine r_iadd (pc := 368) (a := 7 * (k : Int)) (b := 1) hx hb dL_law_368 ?_
  refine r_sld (pc := 369) (z := (7 * (k : Int)) + 1) (v := q) hC hX hbl hbA hS ⟨by omega, by omega, by omega⟩ hz_q dL_law_369 ?_
  refine lv_aload_n (pc := 370) hx hb dL_law_370 rfl (lv_at hl 1 rfl) ?_
  refine lv_iload (pc := 371) hx hb dL_law_371 (lv_at hl 0 rfl) ?_
  refine lv_iconst (pc := 373) (v := iv 2) hx hb dL_law_373 rfl ?_
  refine r_iadd (pc := 374) (a := 7 * (k : Int)) (b := 2) hx hb dL_law_374 ?_
  refine r_sld (pc := 375) (z := (7 * (k : Int)) + 2) (v := r) hC hX hbl hbA hS ⟨by omega, by omega, by omega⟩ hz_r dL_law_375 ?_
  refine lv_aload_n (pc := 376) hx hb dL_law_376 rfl (lv_at hl 4 rfl) ?_
  replace hP : WP ε ((wM ε m0 ad n G ++ [(o, eJ ε 1 g)]) ++ va_pl L f) H := by rw [List.append_assoc]; exact hP
  replace hD : WD ε ((wM ε m0 ad n G ++ [(o, eJ ε 1 g)]) ++ va_pl L f) := by rw [List.append_assoc]; exact hD
  refine c_callSW (pc := 377) (y := yL_areAlikeBySeconds) (hh := [(0, 17, 20, 24)]) (As := [.ref x, .int (iv q), .int (iv r), .ref o]) (rest := []) hC hE hP hD hS hl.1 (c_L_areAlikeBySeconds l ε (wM ε m0 ad n G) o g L f ρ hst x n G hR hI q r rq rr) m_10_11 m_10_12 m_2_9 m_10_13 hd_yL_areAlikeBySeconds rfl ⟨⟨by decide, by decide⟩, (by show 40 + 20 * k + 2 ≤ 601024; omega), (by show 5000 + 3400 * k + 12 ≤ 7293034; omega)⟩ (Nat.le_of_ble_eq_true rfl) rfl dL_law_377 kxN (fun v9 w9 H locs hq hP hD hS => ?_)
  rcases hq with hq | hq
  · obtain ⟨hc9, hv_, L2, f2, ρ2, hw_, hR2⟩ := hq
    rw [hw_, List.append_assoc] at hP hD
    rw [hv_]
    clear hv_ hw_
    dsimp only [Option.toList, List.cons_append, List.nil_append]
    refine lv_istore (lv' := [(5, .int (iv 0)), (4, .int (iv (7 * (k : Int)))), (0, .ref b), (1, .ref x), (2, .ref m0), (3, .ref o)]) (pc := 380) hx hb dL_law_380 hl (by decide) rfl (fun ls hl => ?_)
    refine lv_aload_n (pc := 382) hx hb dL_law_382 rfl (lv_at hl 4 rfl) ?_
    refine lv_aload_n (pc := 383) hx hb dL_law_383 rfl (lv_at hl 2 rfl) ?_
    refine lv_iload (pc := 384) hx hb dL_law_384 (lv_at hl 1 rfl) ?_
    refine lv_iconst (pc := 386) (v := iv 1) hx hb dL_law_386 rfl ?_
    refine r_iadd (pc := 387) (a := 7 * (k : Int)) (b := 1) hx hb dL_law_387 ?_
    refine r_sld (pc := 388) (z := (7 * (k : Int)) + 1) (v := q) hC hX hbl hbA hS ⟨by omega, by omega, by omega⟩ hz_q dL_law_388 ?_
    refine lv_aload_n (pc := 389) hx hb dL_law_389 rfl (lv_at hl 2 rfl) ?_
    refine lv_iload (pc := 390) hx hb dL_law_390 (lv_at hl 1 rfl) ?_
    refine lv_iconst (pc := 392) (v := iv 2) hx hb dL_law_392 rfl ?_
    refine r_iadd (pc := 393) (a := 7 * (k : Int)) (b := 2) hx hb dL_law_393 ?_
    refine r_sld (pc := 394) (z := (7 * (k : Int)) + 2) (v := r) hC hX hbl hbA hS ⟨by omega, by omega, by omega⟩ hz_r dL_law_394 ?_
    refine c_callV (pc := 395) (y := yX5_areAlikeBySeconds) (As := [.int (iv q), .int (iv r)]) (rest := []) hC hE hP hD hS hl.1 (c_m_areAlikeBySeconds l ε m0 ad n G ([(o, eJ ε 1 (va_up g 0 (bz (tb (SC1 G q r)))))] ++ va_pl L2 f2) q r rq rr hI.2.1 hI.2.2.1) m_11_5 m_11_6 m_11_7 m_0_5 m_11_8 wM_o rfl hd_yX5_areAlikeBySeconds rfl ⟨⟨by decide, by decide⟩, (by show 40 + 20 * k + 2 + 0 ≤ 601024; omega), (by show 5000 + 3400 * k + 12 + 0 ≤ 7293034; omega)⟩ (Nat.le_of_ble_eq_true rfl) rfl dL_law_395 kxN (fun v9 w9 H locs hq hP hD hS => ?_)
    rcases hq with hq | hq
    · obtain ⟨hd9, hv_, hw_⟩ := hq
      clear hC hE hK hx hb hI hR hR2 nx hP hD hS hl hX
      exfalso
      omega
    · obtain ⟨hd9, hv_, hw_⟩ := hq
      rw [hw_] at hP hD
      rw [hv_]
      clear hv_ hw_
      dsimp only [Option.toList, List.cons_append, List.nil_append]
      rw [show tb (AK (LQ G q) (LQ G r) (G 3 q.toNat) (G 3 r.toNat)) = tb (SC1 G q r) from congrArg tb (propext (SC1_iff (hI.2.1.q hc9.1.1 hc9.1.2) (hI.2.1.q hc9.2.1 hc9.2.2)).symm)]
      refine lv_istore (lv' := [(6, .int (iv (bz (tb (SC1 G q r))))), (5, .int (iv 0)), (4, .int (iv (7 * (k : Int)))), (0, .ref b), (1, .ref x), (2, .ref m0), (3, .ref o)]) (pc := 398) hx hb dL_law_398 hl (by decide) rfl (fun ls hl => ?_)
      refine lv_aload_n (pc := 400) hx hb dL_law_400 rfl (lv_at hl 5 rfl) ?_
      refine c_callV (pc := 401) (y := yX5_thrown) (As := []) (rest := []) hC hE hP hD hS hl.1 (c_m_thrown l ε m0 ad (va_up n 5 0) G ([(o, eJ ε 1 (va_up g 0 (bz (tb (SC1 G q r)))))] ++ va_pl L2 f2)) m_3_8 m_3_9 m_3_10 m_0_5 m_3_11 wM_o rfl hd_yX5_thrown rfl ⟨⟨by decide, by decide⟩, (by show 40 + 20 * k + 2 + 0 + 0 ≤ 601024; omega), (by show 5000 + 3400 * k + 12 + 0 + 0 ≤ 7293034; omega)⟩ (Nat.le_of_ble_eq_true rfl) rfl dL_law_401 kxN (fun v9 w9 H locs hq hP hD hS => ?_)
      rw [hq.2] at hP hD
      rw [hq.1]
      dsimp only [Option.toList, List.cons_append, List.nil_append]
      rw [show (va_up n 5 0) 5 = 0 from rfl]
      refine lv_iload (pc := 404) hx hb dL_law_404 (lv_at hl 1 rfl) ?_
      refine r_icmp_eq (pc := 406) (a := 0) (b := 0) hx hb dL_law_406 (tgt := 411) (by decide) ⟨by omega, by omega⟩ ⟨by omega, by omega⟩ (fun c_406 => ?_) (fun c_406 => ?_)
      · have c_406_ := c_406
        refine lv_iload (pc := 411) hx hb dL_law_411 (lv_at hl 1 rfl) ?_
        refine r_if_ne (pc := 413) (a := 0) hx hb dL_law_413 (tgt := 435) (by decide) ⟨by omega, by omega⟩ (fun c_413 => ?_) (fun c_413 => ?_)
        · exact absurd c_413 (by decide)
        · have c_413_ := c_413
          refine lv_aload_n (pc := 416) hx hb dL_law_416 rfl (lv_at hl 6 rfl) ?_
          refine lv_iconst (pc := 417) (v := iv 0) hx hb dL_law_417 rfl ?_
          refine r_jald (pc := 418) (z := 0) hC hK hP wM_out ⟨by decide, by decide, by decide⟩ dL_law_418 ?_
          rw [show (va_up g 0 (bz (tb (SC1 G q r)))) (Int.toNat 0) = bz (tb (SC1 G q r)) from va_up_self _ _ _]
          refine lv_iload (pc := 419) hx hb dL_law_419 (lv_at hl 0 rfl) ?_
          refine r_if_b0 (pc := 421) (b := tb (SC1 G q r)) hx hb dL_law_421 (tgt := 428) (by decide)  (fun c_421 => ?_) (fun c_421 => ?_)
          · replace c_421 := tb_no c_421
            refine lv_lconst (pc := 428) (v := jv 0) hx hb dL_law_428 (by decide) ?_
            rw [show bz (tb (SC1 G q r)) = 0 by rw [tb_f c_421]; rfl]
            refine W.lcmp (pc := 429) (x := jv 0) (y := jv 0) hx hb dL_law_429 ?_
            rw [lg_cmp_jv ⟨by omega, by omega⟩ ⟨by omega, by omega⟩]
            have hcm_429 := cmpI_self 0
            refine r_if_eq (pc := 430) (a := cmpI 0 0) hx hb dL_law_430 (tgt := 435) (by decide) ⟨by omega, by omega⟩ (fun c_430 => ?_) (fun c_430 => ?_)
            · have c_430_ := c_430
              refine lv_goto (pc := 435) (tgt := 1396) hx hb dL_law_435 (by decide) ?_
              refine W.widen (k := 40 + 20 * (k + 1)) (n := 5000 + 3400 * (k + 1)) (by show 40 + 20 * k + 2 + 0 + 0 ≤ _; omega) (by show 5000 + 3400 * k + 12 + 0 + 0 ≤ _; omega) ?_
              exact nx (va_up n 5 0) G (va_up g 0 (bz (tb (SC1 G q r)))) L2 f2 ρ2 _ _ _ ⟨INV.n5 hI, (show n 3 ≤ ((k + 1 : Nat) : Int) by omega), RX.num hR2 rfl rfl rfl rfl rfl⟩ hP hD hS (lv_sub hl [2, 3, 4, 5, 6] rfl)
            · have c_430_ := c_430
              exact absurd (cmpI_self _) c_430
          · replace c_421 := tb_iff.mp c_421
            refine lv_lconst (pc := 424) (v := jv 1) hx hb dL_law_424 (by decide) ?_
            refine lv_goto (pc := 425) (tgt := 429) hx hb dL_law_425 (by decide) ?_
            rw [show bz (tb (SC1 G q r)) = 1 by rw [tb_t c_421]; rfl]
            refine W.lcmp (pc := 429) (x := jv 1) (y := jv 1) hx hb dL_law_429 ?_
            rw [lg_cmp_jv ⟨by omega, by omega⟩ ⟨by omega, by omega⟩]
            have hcm_429 := cmpI_self 1
            refine r_if_eq (pc := 430) (a := cmpI 1 1) hx hb dL_law_430 (tgt := 435) (by decide) ⟨by omega, by omega⟩ (fun c_430 => ?_) (fun c_430 => ?_)
            · have c_430_ := c_430
              refine lv_goto (pc := 435) (tgt := 1396) hx hb dL_law_435 (by decide) ?_
              refine W.widen (k := 40 + 20 * (k + 1)) (n := 5000 + 3400 * (k + 1)) (by show 40 + 20 * k + 2 + 0 + 0 ≤ _; omega) (by show 5000 + 3400 * k + 12 + 0 + 0 ≤ _; omega) ?_
              exact nx (va_up n 5 0) G (va_up g 0 (bz (tb (SC1 G q r)))) L2 f2 ρ2 _ _ _ ⟨INV.n5 hI, (show n 3 ≤ ((k + 1 : Nat) : Int) by omega), RX.num hR2 rfl rfl rfl rfl rfl⟩ hP hD hS (lv_sub hl [2, 3, 4, 5, 6] rfl)
            · have c_430_ := c_430
              exact absurd (cmpI_self _) c_430
      · exact absurd c_406 (by decide)
  · obtain ⟨hc9, hv_, L2, f2, ρ2, hw_, hR2⟩ := hq
    rw [hw_, List.append_assoc] at hP hD
    rw [hv_]
    clear hv_ hw_
    dsimp only [Option.toList, List.cons_append, List.nil_append]
    refine lv_istore (lv' := [(5, .int (iv 1)), (4, .int (iv (7 * (k : Int)))), (0, .ref b), (1, .ref x), (2, .ref m0), (3, .ref o)]) (pc := 380) hx hb dL_law_380 hl (by decide) rfl (fun ls hl => ?_)
    refine lv_aload_n (pc := 382) hx hb dL_law_382 rfl (lv_at hl 4 rfl) ?_
    refine lv_aload_n (pc := 383) hx hb dL_law_383 rfl (lv_at hl 2 rfl) ?_
    refine lv_iload (pc := 384) hx hb dL_law_384 (lv_at hl 1 rfl) ?_
    refine lv_iconst (pc := 386) (v := iv 1) hx hb dL_law_386 rfl ?_
    refine r_iadd (pc := 387) (a := 7 * (k : Int)) (b := 1) hx hb dL_law_387 ?_
    refine r_sld (pc := 388) (z := (7 * (k : Int)) + 1) (v := q) hC hX hbl hbA hS ⟨by omega, by omega, by omega⟩ hz_q dL_law_388 ?_
    refine lv_aload_n (pc := 389) hx hb dL_law_389 rfl (lv_at hl 2 rfl) ?_
    refine lv_iload (pc := 390) hx hb dL_law_390 (lv_at hl 1 rfl) ?_
    refine lv_iconst (pc := 392) (v := iv 2) hx hb dL_law_392 rfl ?_
    refine r_iadd (pc := 393) (a := 7 * (k : Int)) (b := 2) hx hb dL_law_393 ?_
    refine r_sld (pc := 394) (z := (7 * (k : Int)) + 2) (v := r) hC hX hbl hbA hS ⟨by omega, by omega, by omega⟩ hz_r dL_law_394 ?_
    refine c_callV (pc := 395) (y := yX5_areAlikeBySeconds) (As := [.int (iv q), .int (iv r)]) (rest := []) hC hE hP hD hS hl.1 (c_m_areAlikeBySeconds l ε m0 ad n G ([(o, eJ ε 1 g)] ++ va_pl L2 f2) q r rq rr hI.2.1 hI.2.2.1) m_11_5 m_11_6 m_11_7 m_0_5 m_11_8 wM_o rfl hd_yX5_areAlikeBySeconds rfl ⟨⟨by decide, by decide⟩, (by show 40 + 20 * k + 2 + 0 ≤ 601024; omega), (by show 5000 + 3400 * k + 12 + 0 ≤ 7293034; omega)⟩ (Nat.le_of_ble_eq_true rfl) rfl dL_law_395 kxN (fun v9 w9 H locs hq hP hD hS => ?_)
    rcases hq with hq | hq
    · obtain ⟨hd9, hv_, hw_⟩ := hq
      rw [hw_] at hP hD
      rw [hv_]
      clear hv_ hw_
      dsimp only [Option.toList, List.cons_append, List.nil_append]
      refine lv_istore (lv' := [(6, .int (iv 0)), (5, .int (iv 1)), (4, .int (iv (7 * (k : Int)))), (0, .ref b), (1, .ref x), (2, .ref m0), (3, .ref o)]) (pc := 398) hx hb dL_law_398 hl (by decide) rfl (fun ls hl => ?_)
      refine lv_aload_n (pc := 400) hx hb dL_law_400 rfl (lv_at hl 5 rfl) ?_
      refine c_callV (pc := 401) (y := yX5_thrown) (As := []) (rest := []) hC hE hP hD hS hl.1 (c_m_thrown l ε m0 ad (va_up n 5 1) G ([(o, eJ ε 1 g)] ++ va_pl L2 f2)) m_3_8 m_3_9 m_3_10 m_0_5 m_3_11 wM_o rfl hd_yX5_thrown rfl ⟨⟨by decide, by decide⟩, (by show 40 + 20 * k + 2 + 0 + 0 ≤ 601024; omega), (by show 5000 + 3400 * k + 12 + 0 + 0 ≤ 7293034; omega)⟩ (Nat.le_of_ble_eq_true rfl) rfl dL_law_401 kxN (fun v9 w9 H locs hq hP hD hS => ?_)
      rw [hq.2] at hP hD
      rw [hq.1]
      dsimp only [Option.toList, List.cons_append, List.nil_append]
      rw [show (va_up n 5 1) 5 = 1 from rfl]
      refine lv_iload (pc := 404) hx hb dL_law_404 (lv_at hl 1 rfl) ?_
      refine r_icmp_eq (pc := 406) (a := 1) (b := 1) hx hb dL_law_406 (tgt := 411) (by decide) ⟨by omega, by omega⟩ ⟨by omega, by omega⟩ (fun c_406 => ?_) (fun c_406 => ?_)
      · have c_406_ := c_406
        refine lv_iload (pc := 411) hx hb dL_law_411 (lv_at hl 1 rfl) ?_
        refine r_if_ne (pc := 413) (a := 1) hx hb dL_law_413 (tgt := 435) (by decide) ⟨by omega, by omega⟩ (fun c_413 => ?_) (fun c_413 => ?_)
        · have c_413_ := c_413
          refine lv_goto (pc := 435) (tgt := 1396) hx hb dL_law_435 (by decide) ?_
          refine W.widen (k := 40 + 20 * (k + 1)) (n := 5000 + 3400 * (k + 1)) (by show 40 + 20 * k + 2 + 0 + 0 ≤ _; omega) (by show 5000 + 3400 * k + 12 + 0 + 0 ≤ _; omega) ?_
          exact nx (va_up n 5 1) G g L2 f2 ρ2 _ _ _ ⟨INV.n5 hI, (show n 3 ≤ ((k + 1 : Nat) : Int) by omega), RX.num hR2 rfl rfl rfl rfl rfl⟩ hP hD hS (lv_sub hl [2, 3, 4, 5, 6] rfl)
        · exact absurd c_413 (by decide)
      · exact absurd c_406 (by decide)
    · obtain ⟨hd9, hv_, hw_⟩ := hq
      clear hC hE hK hx hb hI hR hR2 nx hP hD hS hl hX
      exfalso
      omega
