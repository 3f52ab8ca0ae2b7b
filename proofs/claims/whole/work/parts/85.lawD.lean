set_option maxRecDepth 100000 in
set_option maxHeartbeats 4000000 in
theorem law_c14 {p : Program} {l : Launch} {e : Env} {s : State} {m : MethodId} {b N : Nat} {xs : Nat → Int32} {below : List Frame} {meth : Method} {c : Code} {ε : EV} {x m0 : Nat} {ad : Nat → Nat} {o : Nat} {Q : State → Prop} {k : Nat} (h0 : LCX p l s m b N xs meth c ε k) (nx : LAT p l e s m b below meth c ε x m0 ad o Q 1396 k (k + 1)) : LAT p l e s m b below meth c ε x m0 ad o Q 1042 k k := by
  intro n G g L f ρ H locs ls hW hP hD hS hl
  obtain ⟨hI, h3, hR⟩ := hW
  obtain ⟨⟨nm9, tb9, hC⟩, hE, hst, hX, hbl, hbA, hN1, hN2⟩ := h0
  have hx := hC.1
  have hb := hC.2.1
  have hK := hE.K
  have hnb := hI.NB
  refine lv_aload_n (pc := 1042) hx hb dL_law_1042 rfl (lv_at hl 2 rfl) ?_
  refine lv_aload_n (pc := 1043) hx hb dL_law_1043 rfl (lv_at hl 4 rfl) ?_
  replace hP : WP ε ((wM ε m0 ad n G ++ [(o, eJ ε 1 g)]) ++ va_pl L f) H := by rw [List.append_assoc]; exact hP
  replace hD : WD ε ((wM ε m0 ad n G ++ [(o, eJ ε 1 g)]) ++ va_pl L f) := by rw [List.append_assoc]; exact hD
  refine c_callSW (pc := 1044) (y := yL_print) (hh := [(0, 8, 11, 15)]) (As := [.ref x, .ref o]) (rest := []) hC hE hP hD hS hl.1 (c_L_print l ε (wM ε m0 ad n G) o g L f ρ hst x n G hR hI ) m_19_17 m_19_18 m_2_9 m_19_19 hd_yL_print rfl ⟨⟨by decide, by decide⟩, (by show 40 + 20 * k + 4 ≤ 601024; omega), (by show 5000 + 3400 * k + 1100 ≤ 7293034; omega)⟩ (Nat.le_of_ble_eq_true rfl) rfl dL_law_1044 kxN (fun v9 w9 H locs hq hP hD hS => ?_)
  rcases hq with hq | hq
  · obtain ⟨hc9, hv_, L2, f2, ρ2, hw_, hR2⟩ := hq
    rw [hw_, List.append_assoc] at hP hD
    rw [hv_]
    clear hv_ hw_
    dsimp only [Option.toList, List.cons_append, List.nil_append]
    refine lv_istore (lv' := [(5, .int (iv 0)), (4, .int (iv (7 * (k : Int)))), (0, .ref b), (1, .ref x), (2, .ref m0), (3, .ref o)]) (pc := 1047) hx hb dL_law_1047 hl (by decide) rfl (fun ls hl => ?_)
    refine lv_aload_n (pc := 1049) hx hb dL_law_1049 rfl (lv_at hl 4 rfl) ?_
    refine c_callV (pc := 1050) (y := yX5_print) (As := []) (rest := []) hC hE hP hD hS hl.1 (c_m_print l ε m0 ad n G ([(o, eJ ε 1 (va_up g 0 (n 4)))] ++ va_pl L2 f2) hI.2.1 hI.2.2.1 hI.2.2.2.1 hI.2.2.2.2.1 (fun _ => hI.2.2.2.2.2.2.2 (n 4) (Int.le_refl _))) m_20_24 m_21_0 m_21_1 m_0_5 m_21_2 wM_o rfl hd_yX5_print rfl ⟨⟨by decide, by decide⟩, (by show 40 + 20 * k + 4 + 0 ≤ 601024; omega), (by show 5000 + 3400 * k + 1100 + 0 ≤ 7293034; omega)⟩ (Nat.le_of_ble_eq_true rfl) rfl dL_law_1050 kxN (fun v9 w9 H locs hq hP hD hS => ?_)
    rcases hq with hq | hq
    · obtain ⟨hd9, hv_, hw_⟩ := hq
      clear hC hE hK hx hb hI hR hR2 nx hP hD hS hl hX
      exfalso
      omega
    · obtain ⟨hd9, hv_, hw_⟩ := hq
      rw [hw_] at hP hD
      rw [hv_]
      clear hv_ hw_
      dsimp only [Option.toList, List.cons_append, List.nil_append]
      refine lv_istore (lv' := [(6, .int (iv (n 4))), (5, .int (iv 0)), (4, .int (iv (7 * (k : Int)))), (0, .ref b), (1, .ref x), (2, .ref m0), (3, .ref o)]) (pc := 1053) hx hb dL_law_1053 hl (by decide) rfl (fun ls hl => ?_)
      refine lv_aload_n (pc := 1055) hx hb dL_law_1055 rfl (lv_at hl 5 rfl) ?_
      refine c_callV (pc := 1056) (y := yX5_thrown) (As := []) (rest := []) hC hE hP hD hS hl.1 (c_m_thrown l ε m0 ad (va_up (va_up n 5 0) 4 (n 4 + 1)) (PUT (n 4) (SH G (n 4) 12) (mn (n 3) (n 3 - G 12 (n 4).toNat)).toNat) ([(o, eJ ε 1 (va_up g 0 (n 4)))] ++ va_pl L2 f2)) m_3_8 m_3_9 m_3_10 m_0_5 m_3_11 wM_o rfl hd_yX5_thrown rfl ⟨⟨by decide, by decide⟩, (by show 40 + 20 * k + 4 + 0 + 0 ≤ 601024; omega), (by show 5000 + 3400 * k + 1100 + 0 + 0 ≤ 7293034; omega)⟩ (Nat.le_of_ble_eq_true rfl) rfl dL_law_1056 kxN (fun v9 w9 H locs hq hP hD hS => ?_)
      rw [hq.2] at hP hD
      rw [hq.1]
      dsimp only [Option.toList, List.cons_append, List.nil_append]
      rw [show (va_up (va_up n 5 0) 4 (n 4 + 1)) 5 = 0 from rfl]
      refine lv_iload (pc := 1059) hx hb dL_law_1059 (lv_at hl 1 rfl) ?_
      refine r_icmp_eq (pc := 1061) (a := 0) (b := 0) hx hb dL_law_1061 (tgt := 1066) (by decide) ⟨by omega, by omega⟩ ⟨by omega, by omega⟩ (fun c_1061 => ?_) (fun c_1061 => ?_)
      · have c_1061_ := c_1061
        refine lv_iload (pc := 1066) hx hb dL_law_1066 (lv_at hl 1 rfl) ?_
        refine r_if_ne (pc := 1068) (a := 0) hx hb dL_law_1068 (tgt := 1083) (by decide) ⟨by omega, by omega⟩ (fun c_1068 => ?_) (fun c_1068 => ?_)
        · exact absurd c_1068 (by decide)
        · have c_1068_ := c_1068
          refine lv_aload_n (pc := 1071) hx hb dL_law_1071 rfl (lv_at hl 6 rfl) ?_
          refine lv_iconst (pc := 1072) (v := iv 0) hx hb dL_law_1072 rfl ?_
          refine r_jald (pc := 1073) (z := 0) hC hK hP wM_out ⟨by decide, by decide, by decide⟩ dL_law_1073 ?_
          rw [show (va_up g 0 (n 4)) (Int.toNat 0) = n 4 from va_up_self _ _ _]
          refine lv_iload (pc := 1074) hx hb dL_law_1074 (lv_at hl 0 rfl) ?_
          refine lv_i2l (pc := 1076) (v := jv (n 4)) hx hb dL_law_1076 (iv_long _ ⟨by omega, by omega⟩) ?_
          refine W.lcmp (pc := 1077) (x := jv (n 4)) (y := jv (n 4)) hx hb dL_law_1077 ?_
          rw [lg_cmp_jv ⟨by omega, by omega⟩ ⟨by omega, by omega⟩]
          have hcm_1077 := cmpI_self (n 4)
          refine r_if_eq (pc := 1078) (a := cmpI (n 4) (n 4)) hx hb dL_law_1078 (tgt := 1083) (by decide) ⟨by omega, by omega⟩ (fun c_1078 => ?_) (fun c_1078 => ?_)
          · have c_1078_ := c_1078
            refine lv_goto (pc := 1083) (tgt := 1396) hx hb dL_law_1083 (by decide) ?_
            refine W.widen (k := 40 + 20 * (k + 1)) (n := 5000 + 3400 * (k + 1)) (by show 40 + 20 * k + 4 + 0 + 0 ≤ _; omega) (by show 5000 + 3400 * k + 1100 + 0 + 0 ≤ _; omega) ?_
            exact nx (va_up (va_up n 5 0) 4 (n 4 + 1)) (PUT (n 4) (SH G (n 4) 12) (mn (n 3) (n 3 - G 12 (n 4).toNat)).toNat) (va_up g 0 (n 4)) L2 f2 ρ2 _ _ _ ⟨INV.puts (INV.sh (INV.n5 (c := 0) hI) hc9) (ch := n 4) ⟨by omega, Int.lt_succ (n 4)⟩ _ (by show G 12 (n 4).toNat + ((mn (n 3) (n 3 - G 12 (n 4).toNat)).toNat : Int) ≤ n 3; rw [hI.2.2.2.2.2.2.2 (n 4) (Int.le_refl _)]; unfold mn; split <;> omega), (show n 3 ≤ ((k + 1 : Nat) : Int) by omega), RX.num hR2 rfl rfl rfl rfl rfl⟩ hP hD hS (lv_sub hl [2, 3, 4, 5, 6] rfl)
          · have c_1078_ := c_1078
            exact absurd (cmpI_self _) c_1078
      · exact absurd c_1061 (by decide)
  · obtain ⟨hc9, hv_, L2, f2, ρ2, hw_, hR2⟩ := hq
    rw [hw_, List.append_assoc] at hP hD
    rw [hv_]
    clear hv_ hw_
    dsimp only [Option.toList, List.cons_append, List.nil_append]
    refine lv_istore (lv' := [(5, .int (iv 1)), (4, .int (iv (7 * (k : Int)))), (0, .ref b), (1, .ref x), (2, .ref m0), (3, .ref o)]) (pc := 1047) hx hb dL_law_1047 hl (by decide) rfl (fun ls hl => ?_)
    refine lv_aload_n (pc := 1049) hx hb dL_law_1049 rfl (lv_at hl 4 rfl) ?_
    refine c_callV (pc := 1050) (y := yX5_print) (As := []) (rest := []) hC hE hP hD hS hl.1 (c_m_print l ε m0 ad n G ([(o, eJ ε 1 g)] ++ va_pl L2 f2) hI.2.1 hI.2.2.1 hI.2.2.2.1 hI.2.2.2.2.1 (fun _ => hI.2.2.2.2.2.2.2 (n 4) (Int.le_refl _))) m_20_24 m_21_0 m_21_1 m_0_5 m_21_2 wM_o rfl hd_yX5_print rfl ⟨⟨by decide, by decide⟩, (by show 40 + 20 * k + 4 + 0 ≤ 601024; omega), (by show 5000 + 3400 * k + 1100 + 0 ≤ 7293034; omega)⟩ (Nat.le_of_ble_eq_true rfl) rfl dL_law_1050 kxN (fun v9 w9 H locs hq hP hD hS => ?_)
    rcases hq with hq | hq
    · obtain ⟨hd9, hv_, hw_⟩ := hq
      rw [hw_] at hP hD
      rw [hv_]
      clear hv_ hw_
      dsimp only [Option.toList, List.cons_append, List.nil_append]
      refine lv_istore (lv' := [(6, .int (iv 0)), (5, .int (iv 1)), (4, .int (iv (7 * (k : Int)))), (0, .ref b), (1, .ref x), (2, .ref m0), (3, .ref o)]) (pc := 1053) hx hb dL_law_1053 hl (by decide) rfl (fun ls hl => ?_)
      refine lv_aload_n (pc := 1055) hx hb dL_law_1055 rfl (lv_at hl 5 rfl) ?_
      refine c_callV (pc := 1056) (y := yX5_thrown) (As := []) (rest := []) hC hE hP hD hS hl.1 (c_m_thrown l ε m0 ad (va_up n 5 1) G ([(o, eJ ε 1 g)] ++ va_pl L2 f2)) m_3_8 m_3_9 m_3_10 m_0_5 m_3_11 wM_o rfl hd_yX5_thrown rfl ⟨⟨by decide, by decide⟩, (by show 40 + 20 * k + 4 + 0 + 0 ≤ 601024; omega), (by show 5000 + 3400 * k + 1100 + 0 + 0 ≤ 7293034; omega)⟩ (Nat.le_of_ble_eq_true rfl) rfl dL_law_1056 kxN (fun v9 w9 H locs hq hP hD hS => ?_)
      rw [hq.2] at hP hD
      rw [hq.1]
      dsimp only [Option.toList, List.cons_append, List.nil_append]
      rw [show (va_up n 5 1) 5 = 1 from rfl]
      refine lv_iload (pc := 1059) hx hb dL_law_1059 (lv_at hl 1 rfl) ?_
      refine r_icmp_eq (pc := 1061) (a := 1) (b := 1) hx hb dL_law_1061 (tgt := 1066) (by decide) ⟨by omega, by omega⟩ ⟨by omega, by omega⟩ (fun c_1061 => ?_) (fun c_1061 => ?_)
      · have c_1061_ := c_1061
        refine lv_iload (pc := 1066) hx hb dL_law_1066 (lv_at hl 1 rfl) ?_
        refine r_if_ne (pc := 1068) (a := 1) hx hb dL_law_1068 (tgt := 1083) (by decide) ⟨by omega, by omega⟩ (fun c_1068 => ?_) (fun c_1068 => ?_)
        · have c_1068_ := c_1068
          refine lv_goto (pc := 1083) (tgt := 1396) hx hb dL_law_1083 (by decide) ?_
          refine W.widen (k := 40 + 20 * (k + 1)) (n := 5000 + 3400 * (k + 1)) (by show 40 + 20 * k + 4 + 0 + 0 ≤ _; omega) (by show 5000 + 3400 * k + 1100 + 0 + 0 ≤ _; omega) ?_
          exact nx (va_up n 5 1) G g L2 f2 ρ2 _ _ _ ⟨INV.n5 hI, (show n 3 ≤ ((k + 1 : Nat) : Int) by omega), RX.num hR2 rfl rfl rfl rfl rfl⟩ hP hD hS (lv_sub hl [2, 3, 4, 5, 6] rfl)
        · exact absurd c_1068 (by decide)
      · exact absurd c_1061 (by decide)
    · obtain ⟨hd9, hv_, hw_⟩ := hq
      clear hC hE hK hx hb hI hR hR2 nx hP hD hS hl hX
      exfalso
      omega

set_option maxRecDepth 100000 in
set_option maxHeartbeats 4000000 in
theorem law_c15 {p : Program} {l : Launch} {e : Env} {s : State} {m : MethodId} {b N : Nat} {xs : Nat → Int32} {below : List Frame} {meth : Method} {c : Code} {ε : EV} {x m0 : Nat} {ad : Nat → Nat} {o : Nat} {Q : State → Prop} {k : Nat} (h0 : LCX p l s m b N xs meth c ε k) (nx : LAT p l e s m b below meth c ε x m0 ad o Q 1396 k (k + 1)) : LAT p l e s m b below meth c ε x m0 ad o Q 1086 k k := by
  intro n G g L f ρ H locs ls hW hP hD hS hl
  obtain ⟨hI, h3, hR⟩ := hW
  obtain ⟨⟨nm9, tb9, hC⟩, hE, hst, hX, hbl, hbA, hN1, hN2⟩ := h0
  have hx := hC.1
  have hb := hC.2.1
  have hK := hE.K
  have hnb := hI.NB
  obtain ⟨ch, hz_ch⟩ : ∃ z : Int, z = ZZ xs (7 * (k : Int) + 1) := ⟨_, rfl⟩
  have rch : rg ch := by rw [hz_ch]; exact ZZ_rg _ _
  obtain ⟨many, hz_many⟩ : ∃ z : Int, z = ZZ xs (7 * (k : Int) + 2) := ⟨_, rfl⟩
  have rmany : rg many := by rw [hz_many]; exact ZZ_rg _ _
  refine lv_aload_n (pc := 1086) hx hb dL_law_1086 rfl (lv_at hl 2 rfl) ?_
  refine lv_aload_n (pc := 1087) hx hb dL_law_1087 rfl (lv_at hl 1 rfl) ?_
  refine lv_iload (pc := 1088) hx hb dL_law_1088 (lv_at hl 0 rfl) ?_
  refine lv_iconst (pc := 1090) (v := iv 1) hx hb dL_law_1090 rfl ?_
  refine r_iadd (pc := 1091) (a := 7 * (k : Int)) (b := 1) hx hb dL_law_1091 ?_
  refine r_sld (pc := 1092) (z := (7 * (k : Int)) + 1) (v := ch) hC hX hbl hbA hS ⟨by omega, by omega, by omega⟩ hz_ch dL_law_1092 ?_
  refine lv_aload_n (pc := 1093) hx hb dL_law_1093 rfl (lv_at hl 1 rfl) ?_
  refine lv_iload (pc := 1094) hx hb dL_law_1094 (lv_at hl 0 rfl) ?_
  refine lv_iconst (pc := 1096) (v := iv 2) hx hb dL_law_1096 rfl ?_
  refine r_iadd (pc := 1097) (a := 7 * (k : Int)) (b := 2) hx hb dL_law_1097 ?_
  refine r_sld (pc := 1098) (z := (7 * (k : Int)) + 2) (v := many) hC hX hbl hbA hS ⟨by omega, by omega, by omega⟩ hz_many dL_law_1098 ?_
  refine lv_aload_n (pc := 1099) hx hb dL_law_1099 rfl (lv_at hl 4 rfl) ?_
  replace hP : WP ε ((wM ε m0 ad n G ++ [(o, eJ ε 1 g)]) ++ va_pl L f) H := by rw [List.append_assoc]; exact hP
  replace hD : WD ε ((wM ε m0 ad n G ++ [(o, eJ ε 1 g)]) ++ va_pl L f) := by rw [List.append_assoc]; exact hD
  refine c_callSW (pc := 1100) (y := yL_correct) (hh := [(0, 10, 13, 24), (0, 10, 17, 13)]) (As := [.ref x, .int (iv ch), .int (iv many), .ref o]) (rest := []) hC hE hP hD hS hl.1 (c_L_correct l ε (wM ε m0 ad n G) o g L f ρ hst x n G hR hI ch many rch rmany) m_21_8 m_21_9 m_2_9 m_21_10 hd_yL_correct rfl ⟨⟨by decide, by decide⟩, (by show 40 + 20 * k + 3 ≤ 601024; omega), (by show 5000 + 3400 * k + 20 ≤ 7293034; omega)⟩ (Nat.le_of_ble_eq_true rfl) rfl dL_law_1100 kxN (fun v9 w9 H locs hq hP hD hS => ?_)
  rcases hq with hq | hq | hq
  · obtain ⟨hc9, hv_, L2, f2, ρ2, hw_, hR2⟩ := hq
    rw [hw_, List.append_assoc] at hP hD
    rw [hv_]
    clear hv_ hw_
    dsimp only [Option.toList, List.cons_append, List.nil_append]
    refine lv_istore (lv' := [(5, .int (iv 0)), (4, .int (iv (7 * (k : Int)))), (0, .ref b), (1, .ref x), (2, .ref m0), (3, .ref o)]) (pc := 1103) hx hb dL_law_1103 hl (by decide) rfl (fun ls hl => ?_)
    refine lv_aload_n (pc := 1105) hx hb dL_law_1105 rfl (lv_at hl 4 rfl) ?_
    refine lv_aload_n (pc := 1106) hx hb dL_law_1106 rfl (lv_at hl 2 rfl) ?_
    refine lv_iload (pc := 1107) hx hb dL_law_1107 (lv_at hl 1 rfl) ?_
    refine lv_iconst (pc := 1109) (v := iv 1) hx hb dL_law_1109 rfl ?_
    refine r_iadd (pc := 1110) (a := 7 * (k : Int)) (b := 1) hx hb dL_law_1110 ?_
    refine r_sld (pc := 1111) (z := (7 * (k : Int)) + 1) (v := ch) hC hX hbl hbA hS ⟨by omega, by omega, by omega⟩ hz_ch dL_law_1111 ?_
    refine lv_aload_n (pc := 1112) hx hb dL_law_1112 rfl (lv_at hl 2 rfl) ?_
    refine lv_iload (pc := 1113) hx hb dL_law_1113 (lv_at hl 1 rfl) ?_
    refine lv_iconst (pc := 1115) (v := iv 2) hx hb dL_law_1115 rfl ?_
    refine r_iadd (pc := 1116) (a := 7 * (k : Int)) (b := 2) hx hb dL_law_1116 ?_
    refine r_sld (pc := 1117) (z := (7 * (k : Int)) + 2) (v := many) hC hX hbl hbA hS ⟨by omega, by omega, by omega⟩ hz_many dL_law_1117 ?_
    refine c_callV (pc := 1118) (y := yX5_correct) (As := [.int (iv ch), .int (iv many)]) (rest := []) hC hE hP hD hS hl.1 (c_m_correct l ε m0 ad n G ([(o, eJ ε 1 (va_up g 0 (mn many (n 3 - G 12 ch.toNat))))] ++ va_pl L2 f2) ch many rch rmany hI.2.1 hI.2.2.1 hI.2.2.2.1 hI.2.2.2.2.1) m_21_24 m_22_0 m_22_1 m_0_5 m_22_2 wM_o rfl hd_yX5_correct rfl ⟨⟨by decide, by decide⟩, (by show 40 + 20 * k + 3 + 0 ≤ 601024; omega), (by show 5000 + 3400 * k + 20 + 0 ≤ 7293034; omega)⟩ (Nat.le_of_ble_eq_true rfl) rfl dL_law_1118 kxN (fun v9 w9 H locs hq hP hD hS => ?_)
    rcases hq with hq | hq | hq
    · obtain ⟨hd9, hv_, hw_⟩ := hq
      clear hC hE hK hx hb hI hR hR2 nx hP hD hS hl hX
      exfalso
      omega
    · obtain ⟨hd9, hv_, hw_⟩ := hq
      clear hC hE hK hx hb hI hR hR2 nx hP hD hS hl hX
      exfalso
      omega
    · obtain ⟨hd9, hv_, hw_⟩ := hq
      rw [hw_] at hP hD
      rw [hv_]
      clear hv_ hw_
      dsimp only [Option.toList, List.cons_append, List.nil_append]
      have hct := (hI.2.2.2.1.2 ch hc9.1.1 hc9.1.2).1
      have hmn : 0 ≤ mn many (n 3 - G 12 ch.toNat) ∧ mn many (n 3 - G 12 ch.toNat) ≤ 100 := by unfold mn; split <;> omega
      refine lv_istore (lv' := [(6, .int (iv (mn many (n 3 - G 12 ch.toNat)))), (5, .int (iv 0)), (4, .int (iv (7 * (k : Int)))), (0, .ref b), (1, .ref x), (2, .ref m0), (3, .ref o)]) (pc := 1121) hx hb dL_law_1121 hl (by decide) rfl (fun ls hl => ?_)
      refine lv_aload_n (pc := 1123) hx hb dL_law_1123 rfl (lv_at hl 5 rfl) ?_
      refine c_callV (pc := 1124) (y := yX5_thrown) (As := []) (rest := []) hC hE hP hD hS hl.1 (c_m_thrown l ε m0 ad (va_up n 5 0) (PUT ch G (mn many (n 3 - G 12 ch.toNat)).toNat) ([(o, eJ ε 1 (va_up g 0 (mn many (n 3 - G 12 ch.toNat))))] ++ va_pl L2 f2)) m_3_8 m_3_9 m_3_10 m_0_5 m_3_11 wM_o rfl hd_yX5_thrown rfl ⟨⟨by decide, by decide⟩, (by show 40 + 20 * k + 3 + 0 + 0 ≤ 601024; omega), (by show 5000 + 3400 * k + 20 + 0 + 0 ≤ 7293034; omega)⟩ (Nat.le_of_ble_eq_true rfl) rfl dL_law_1124 kxN (fun v9 w9 H locs hq hP hD hS => ?_)
      rw [hq.2] at hP hD
      rw [hq.1]
      dsimp only [Option.toList, List.cons_append, List.nil_append]
      rw [show (va_up n 5 0) 5 = 0 from rfl]
      refine lv_iload (pc := 1127) hx hb dL_law_1127 (lv_at hl 1 rfl) ?_
      refine r_icmp_eq (pc := 1129) (a := 0) (b := 0) hx hb dL_law_1129 (tgt := 1134) (by decide) ⟨by omega, by omega⟩ ⟨by omega, by omega⟩ (fun c_1129 => ?_) (fun c_1129 => ?_)
      · have c_1129_ := c_1129
        refine lv_iload (pc := 1134) hx hb dL_law_1134 (lv_at hl 1 rfl) ?_
        refine r_if_ne (pc := 1136) (a := 0) hx hb dL_law_1136 (tgt := 1151) (by decide) ⟨by omega, by omega⟩ (fun c_1136 => ?_) (fun c_1136 => ?_)
        · exact absurd c_1136 (by decide)
        · have c_1136_ := c_1136
          refine lv_aload_n (pc := 1139) hx hb dL_law_1139 rfl (lv_at hl 6 rfl) ?_
          refine lv_iconst (pc := 1140) (v := iv 0) hx hb dL_law_1140 rfl ?_
          refine r_jald (pc := 1141) (z := 0) hC hK hP wM_out ⟨by decide, by decide, by decide⟩ dL_law_1141 ?_
          rw [show (va_up g 0 (mn many (n 3 - G 12 ch.toNat))) (Int.toNat 0) = mn many (n 3 - G 12 ch.toNat) from va_up_self _ _ _]
          refine lv_iload (pc := 1142) hx hb dL_law_1142 (lv_at hl 0 rfl) ?_
          refine lv_i2l (pc := 1144) (v := jv (mn many (n 3 - G 12 ch.toNat))) hx hb dL_law_1144 (iv_long _ ⟨by omega, by omega⟩) ?_
          refine W.lcmp (pc := 1145) (x := jv (mn many (n 3 - G 12 ch.toNat))) (y := jv (mn many (n 3 - G 12 ch.toNat))) hx hb dL_law_1145 ?_
          rw [lg_cmp_jv ⟨by omega, by omega⟩ ⟨by omega, by omega⟩]
          have hcm_1145 := cmpI_self (mn many (n 3 - G 12 ch.toNat))
          refine r_if_eq (pc := 1146) (a := cmpI (mn many (n 3 - G 12 ch.toNat)) (mn many (n 3 - G 12 ch.toNat))) hx hb dL_law_1146 (tgt := 1151) (by decide) ⟨by omega, by omega⟩ (fun c_1146 => ?_) (fun c_1146 => ?_)
          · have c_1146_ := c_1146
            refine lv_goto (pc := 1151) (tgt := 1396) hx hb dL_law_1151 (by decide) ?_
            refine W.widen (k := 40 + 20 * (k + 1)) (n := 5000 + 3400 * (k + 1)) (by show 40 + 20 * k + 3 + 0 + 0 ≤ _; omega) (by show 5000 + 3400 * k + 20 + 0 + 0 ≤ _; omega) ?_
            exact nx (va_up n 5 0) (PUT ch G (mn many (n 3 - G 12 ch.toNat)).toNat) (va_up g 0 (mn many (n 3 - G 12 ch.toNat))) L2 f2 ρ2 _ _ _ ⟨INV.puts (INV.n5 (c := 0) hI) hc9.1 _ (by show G 12 ch.toNat + ((mn many (n 3 - G 12 ch.toNat)).toNat : Int) ≤ n 3; have hct9 := (hI.2.2.2.1.2 ch hc9.1.1 hc9.1.2).1; unfold mn; split <;> omega), (show n 3 ≤ ((k + 1 : Nat) : Int) by omega), RX.num hR2 rfl rfl rfl rfl rfl⟩ hP hD hS (lv_sub hl [2, 3, 4, 5, 6] rfl)
          · have c_1146_ := c_1146
            exact absurd (cmpI_self _) c_1146
      · exact absurd c_1129 (by decide)
  · obtain ⟨hc9, hv_, L2, f2, ρ2, hw_, hR2⟩ := hq
    rw [hw_, List.append_assoc] at hP hD
    rw [hv_]
    clear hv_ hw_
    dsimp only [Option.toList, List.cons_append, List.nil_append]
    refine lv_istore (lv' := [(5, .int (iv 1)), (4, .int (iv (7 * (k : Int)))), (0, .ref b), (1, .ref x), (2, .ref m0), (3, .ref o)]) (pc := 1103) hx hb dL_law_1103 hl (by decide) rfl (fun ls hl => ?_)
    refine lv_aload_n (pc := 1105) hx hb dL_law_1105 rfl (lv_at hl 4 rfl) ?_
    refine lv_aload_n (pc := 1106) hx hb dL_law_1106 rfl (lv_at hl 2 rfl) ?_
    refine lv_iload (pc := 1107) hx hb dL_law_1107 (lv_at hl 1 rfl) ?_
    refine lv_iconst (pc := 1109) (v := iv 1) hx hb dL_law_1109 rfl ?_
    refine r_iadd (pc := 1110) (a := 7 * (k : Int)) (b := 1) hx hb dL_law_1110 ?_
    refine r_sld (pc := 1111) (z := (7 * (k : Int)) + 1) (v := ch) hC hX hbl hbA hS ⟨by omega, by omega, by omega⟩ hz_ch dL_law_1111 ?_
    refine lv_aload_n (pc := 1112) hx hb dL_law_1112 rfl (lv_at hl 2 rfl) ?_
    refine lv_iload (pc := 1113) hx hb dL_law_1113 (lv_at hl 1 rfl) ?_
    refine lv_iconst (pc := 1115) (v := iv 2) hx hb dL_law_1115 rfl ?_
    refine r_iadd (pc := 1116) (a := 7 * (k : Int)) (b := 2) hx hb dL_law_1116 ?_
    refine r_sld (pc := 1117) (z := (7 * (k : Int)) + 2) (v := many) hC hX hbl hbA hS ⟨by omega, by omega, by omega⟩ hz_many dL_law_1117 ?_
    refine c_callV (pc := 1118) (y := yX5_correct) (As := [.int (iv ch), .int (iv many)]) (rest := []) hC hE hP hD hS hl.1 (c_m_correct l ε m0 ad n G ([(o, eJ ε 1 g)] ++ va_pl L2 f2) ch many rch rmany hI.2.1 hI.2.2.1 hI.2.2.2.1 hI.2.2.2.2.1) m_21_24 m_22_0 m_22_1 m_0_5 m_22_2 wM_o rfl hd_yX5_correct rfl ⟨⟨by decide, by decide⟩, (by show 40 + 20 * k + 3 + 0 ≤ 601024; omega), (by show 5000 + 3400 * k + 20 + 0 ≤ 7293034; omega)⟩ (Nat.le_of_ble_eq_true rfl) rfl dL_law_1118 kxN (fun v9 w9 H locs hq hP hD hS => ?_)
    rcases hq with hq | hq | hq
    · obtain ⟨hd9, hv_, hw_⟩ := hq
      rw [hw_] at hP hD
      rw [hv_]
      clear hv_ hw_
      dsimp only [Option.toList, List.cons_append, List.nil_append]
      refine lv_istore (lv' := [(6, .int (iv 0)), (5, .int (iv 1)), (4, .int (iv (7 * (k : Int)))), (0, .ref b), (1, .ref x), (2, .ref m0), (3, .ref o)]) (pc := 1121) hx hb dL_law_1121 hl (by decide) rfl (fun ls hl => ?_)
      refine lv_aload_n (pc := 1123) hx hb dL_law_1123 rfl (lv_at hl 5 rfl) ?_
      refine c_callV (pc := 1124) (y := yX5_thrown) (As := []) (rest := []) hC hE hP hD hS hl.1 (c_m_thrown l ε m0 ad (va_up n 5 1) G ([(o, eJ ε 1 g)] ++ va_pl L2 f2)) m_3_8 m_3_9 m_3_10 m_0_5 m_3_11 wM_o rfl hd_yX5_thrown rfl ⟨⟨by decide, by decide⟩, (by show 40 + 20 * k + 3 + 0 + 0 ≤ 601024; omega), (by show 5000 + 3400 * k + 20 + 0 + 0 ≤ 7293034; omega)⟩ (Nat.le_of_ble_eq_true rfl) rfl dL_law_1124 kxN (fun v9 w9 H locs hq hP hD hS => ?_)
      rw [hq.2] at hP hD
      rw [hq.1]
      dsimp only [Option.toList, List.cons_append, List.nil_append]
      rw [show (va_up n 5 1) 5 = 1 from rfl]
      refine lv_iload (pc := 1127) hx hb dL_law_1127 (lv_at hl 1 rfl) ?_
      refine r_icmp_eq (pc := 1129) (a := 1) (b := 1) hx hb dL_law_1129 (tgt := 1134) (by decide) ⟨by omega, by omega⟩ ⟨by omega, by omega⟩ (fun c_1129 => ?_) (fun c_1129 => ?_)
      · have c_1129_ := c_1129
        refine lv_iload (pc := 1134) hx hb dL_law_1134 (lv_at hl 1 rfl) ?_
        refine r_if_ne (pc := 1136) (a := 1) hx hb dL_law_1136 (tgt := 1151) (by decide) ⟨by omega, by omega⟩ (fun c_1136 => ?_) (fun c_1136 => ?_)
        · have c_1136_ := c_1136
          refine lv_goto (pc := 1151) (tgt := 1396) hx hb dL_law_1151 (by decide) ?_
          refine W.widen (k := 40 + 20 * (k + 1)) (n := 5000 + 3400 * (k + 1)) (by show 40 + 20 * k + 3 + 0 + 0 ≤ _; omega) (by show 5000 + 3400 * k + 20 + 0 + 0 ≤ _; omega) ?_
          exact nx (va_up n 5 1) G g L2 f2 ρ2 _ _ _ ⟨INV.n5 hI, (show n 3 ≤ ((k + 1 : Nat) : Int) by omega), RX.num hR2 rfl rfl rfl rfl rfl⟩ hP hD hS (lv_sub hl [2, 3, 4, 5, 6] rfl)
        · exact absurd c_1136 (by decide)
      · exact absurd c_1129 (by decide)
    · obtain ⟨hd9, hv_, hw_⟩ := hq
      clear hC hE hK hx hb hI hR hR2 nx hP hD hS hl hX
      exfalso
      omega
    · obtain ⟨hd9, hv_, hw_⟩ := hq
      clear hC hE hK hx hb hI hR hR2 nx hP hD hS hl hX
      exfalso
      omega
  · obtain ⟨hc9, hv_, L2, f2, ρ2, hw_, hR2⟩ := hq
    rw [hw_, List.append_assoc] at hP hD
    rw [hv_]
    clear hv_ hw_
    dsimp only [Option.toList, List.cons_append, List.nil_append]
    refine lv_istore (lv' := [(5, .int (iv 2)), (4, .int (iv (7 * (k : Int)))), (0, .ref b), (1, .ref x), (2, .ref m0), (3, .ref o)]) (pc := 1103) hx hb dL_law_1103 hl (by decide) rfl (fun ls hl => ?_)
    refine lv_aload_n (pc := 1105) hx hb dL_law_1105 rfl (lv_at hl 4 rfl) ?_
    refine lv_aload_n (pc := 1106) hx hb dL_law_1106 rfl (lv_at hl 2 rfl) ?_
    refine lv_iload (pc := 1107) hx hb dL_law_1107 (lv_at hl 1 rfl) ?_
    refine lv_iconst (pc := 1109) (v := iv 1) hx hb dL_law_1109 rfl ?_
    refine r_iadd (pc := 1110) (a := 7 * (k : Int)) (b := 1) hx hb dL_law_1110 ?_
    refine r_sld (pc := 1111) (z := (7 * (k : Int)) + 1) (v := ch) hC hX hbl hbA hS ⟨by omega, by omega, by omega⟩ hz_ch dL_law_1111 ?_
    refine lv_aload_n (pc := 1112) hx hb dL_law_1112 rfl (lv_at hl 2 rfl) ?_
    refine lv_iload (pc := 1113) hx hb dL_law_1113 (lv_at hl 1 rfl) ?_
    refine lv_iconst (pc := 1115) (v := iv 2) hx hb dL_law_1115 rfl ?_
    refine r_iadd (pc := 1116) (a := 7 * (k : Int)) (b := 2) hx hb dL_law_1116 ?_
    refine r_sld (pc := 1117) (z := (7 * (k : Int)) + 2) (v := many) hC hX hbl hbA hS ⟨by omega, by omega, by omega⟩ hz_many dL_law_1117 ?_
    refine c_callV (pc := 1118) (y := yX5_correct) (As := [.int (iv ch), .int (iv many)]) (rest := []) hC hE hP hD hS hl.1 (c_m_correct l ε m0 ad n G ([(o, eJ ε 1 g)] ++ va_pl L2 f2) ch many rch rmany hI.2.1 hI.2.2.1 hI.2.2.2.1 hI.2.2.2.2.1) m_21_24 m_22_0 m_22_1 m_0_5 m_22_2 wM_o rfl hd_yX5_correct rfl ⟨⟨by decide, by decide⟩, (by show 40 + 20 * k + 3 + 0 ≤ 601024; omega), (by show 5000 + 3400 * k + 20 + 0 ≤ 7293034; omega)⟩ (Nat.le_of_ble_eq_true rfl) rfl dL_law_1118 kxN (fun v9 w9 H locs hq hP hD hS => ?_)
    rcases hq with hq | hq | hq
    · obtain ⟨hd9, hv_, hw_⟩ := hq
      clear hC hE hK hx hb hI hR hR2 nx hP hD hS hl hX
      exfalso
      omega
    · obtain ⟨hd9, hv_, hw_⟩ := hq
      rw [hw_] at hP hD
      rw [hv_]
      clear hv_ hw_
      dsimp only [Option.toList, List.cons_append, List.nil_append]
      refine lv_istore (lv' := [(6, .int (iv 0)), (5, .int (iv 2)), (4, .int (iv (7 * (k : Int)))), (0, .ref b), (1, .ref x), (2, .ref m0), (3, .ref o)]) (pc := 1121) hx hb dL_law_1121 hl (by decide) rfl (fun ls hl => ?_)
      refine lv_aload_n (pc := 1123) hx hb dL_law_1123 rfl (lv_at hl 5 rfl) ?_
      refine c_callV (pc := 1124) (y := yX5_thrown) (As := []) (rest := []) hC hE hP hD hS hl.1 (c_m_thrown l ε m0 ad (va_up n 5 2) G ([(o, eJ ε 1 g)] ++ va_pl L2 f2)) m_3_8 m_3_9 m_3_10 m_0_5 m_3_11 wM_o rfl hd_yX5_thrown rfl ⟨⟨by decide, by decide⟩, (by show 40 + 20 * k + 3 + 0 + 0 ≤ 601024; omega), (by show 5000 + 3400 * k + 20 + 0 + 0 ≤ 7293034; omega)⟩ (Nat.le_of_ble_eq_true rfl) rfl dL_law_1124 kxN (fun v9 w9 H locs hq hP hD hS => ?_)
      rw [hq.2] at hP hD
      rw [hq.1]
      dsimp only [Option.toList, List.cons_append, List.nil_append]
      rw [show (va_up n 5 2) 5 = 2 from rfl]
      refine lv_iload (pc := 1127) hx hb dL_law_1127 (lv_at hl 1 rfl) ?_
      refine r_icmp_eq (pc := 1129) (a := 2) (b := 2) hx hb dL_law_1129 (tgt := 1134) (by decide) ⟨by omega, by omega⟩ ⟨by omega, by omega⟩ (fun c_1129 => ?_) (fun c_1129 => ?_)
      · have c_1129_ := c_1129
        refine lv_iload (pc := 1134) hx hb dL_law_1134 (lv_at hl 1 rfl) ?_
        refine r_if_ne (pc := 1136) (a := 2) hx hb dL_law_1136 (tgt := 1151) (by decide) ⟨by omega, by omega⟩ (fun c_1136 => ?_) (fun c_1136 => ?_)
        · have c_1136_ := c_1136
          refine lv_goto (pc := 1151) (tgt := 1396) hx hb dL_law_1151 (by decide) ?_
          refine W.widen (k := 40 + 20 * (k + 1)) (n := 5000 + 3400 * (k + 1)) (by show 40 + 20 * k + 3 + 0 + 0 ≤ _; omega) (by show 5000 + 3400 * k + 20 + 0 + 0 ≤ _; omega) ?_
          exact nx (va_up n 5 2) G g L2 f2 ρ2 _ _ _ ⟨INV.n5 hI, (show n 3 ≤ ((k + 1 : Nat) : Int) by omega), RX.num hR2 rfl rfl rfl rfl rfl⟩ hP hD hS (lv_sub hl [2, 3, 4, 5, 6] rfl)
        · exact absurd c_1136 (by decide)
      · exact absurd c_1129 (by decide)
    · obtain ⟨hd9, hv_, hw_⟩ := hq
      clear hC hE hK hx hb hI hR hR2 nx hP hD hS hl hX
      exfalso
      omega

set_option maxRecDepth 100000 in
set_option maxHeartbeats 4000000 in
theorem law_c16 {p : Program} {l : Launch} {e : Env} {s : State} {m : MethodId} {b N : Nat} {xs : Nat → Int32} {below : List Frame} {meth : Method} {c : Code} {ε : EV} {x m0 : Nat} {ad : Nat → Nat} {o : Nat} {Q : State → Prop} {k : Nat} (h0 : LCX p l s m b N xs meth c ε k) (nx : LAT p l e s m b below meth c ε x m0 ad o Q 1396 k (k + 1)) : LAT p l e s m b below meth c ε x m0 ad o Q 1154 k k := by
  intro n G g L f ρ H locs ls hW hP hD hS hl
  obtain ⟨hI, h3, hR⟩ := hW
  obtain ⟨⟨nm9, tb9, hC⟩, hE, hst, hX, hbl, hbA, hN1, hN2⟩ := h0
  have hx := hC.1
  have hb := hC.2.1
  have hK := hE.K
  have hnb := hI.NB
  obtain ⟨ch, hz_ch⟩ : ∃ z : Int, z = ZZ xs (7 * (k : Int) + 1) := ⟨_, rfl⟩
  have rch : rg ch := by rw [hz_ch]; exact ZZ_rg _ _
  refine lv_aload_n (pc := 1154) hx hb dL_law_1154 rfl (lv_at hl 2 rfl) ?_
  refine lv_aload_n (pc := 1155) hx hb dL_law_1155 rfl (lv_at hl 1 rfl) ?_
  refine lv_iload (pc := 1156) hx hb dL_law_1156 (lv_at hl 0 rfl) ?_
  refine lv_iconst (pc := 1158) (v := iv 1) hx hb dL_law_1158 rfl ?_
  refine r_iadd (pc := 1159) (a := 7 * (k : Int)) (b := 1) hx hb dL_law_1159 ?_
  refine r_sld (pc := 1160) (z := (7 * (k : Int)) + 1) (v := ch) hC hX hbl hbA hS ⟨by omega, by omega, by omega⟩ hz_ch dL_law_1160 ?_
  refine lv_aload_n (pc := 1161) hx hb dL_law_1161 rfl (lv_at hl 4 rfl) ?_
  replace hP : WP ε ((wM ε m0 ad n G ++ [(o, eJ ε 1 g)]) ++ va_pl L f) H := by rw [List.append_assoc]; exact hP
  replace hD : WD ε ((wM ε m0 ad n G ++ [(o, eJ ε 1 g)]) ++ va_pl L f) := by rw [List.append_assoc]; exact hD
  refine c_callSW (pc := 1162) (y := yL_behind) (hh := [(0, 9, 12, 24)]) (As := [.ref x, .int (iv ch), .ref o]) (rest := []) hC hE hP hD hS hl.1 (c_L_behind l ε (wM ε m0 ad n G) o g L f ρ hst x n G hR hI ch rch) m_22_7 m_22_8 m_2_9 m_22_9 hd_yL_behind rfl ⟨⟨by decide, by decide⟩, (by show 40 + 20 * k + 1 ≤ 601024; omega), (by show 5000 + 3400 * k + 6 ≤ 7293034; omega)⟩ (Nat.le_of_ble_eq_true rfl) rfl dL_law_1162 kxN (fun v9 w9 H locs hq hP hD hS => ?_)
  rcases hq with hq | hq
  · obtain ⟨hc9, hv_, L2, f2, ρ2, hw_, hR2⟩ := hq
    rw [hw_, List.append_assoc] at hP hD
    rw [hv_]
    clear hv_ hw_
    dsimp only [Option.toList, List.cons_append, List.nil_append]
    refine lv_istore (lv' := [(5, .int (iv 0)), (4, .int (iv (7 * (k : Int)))), (0, .ref b), (1, .ref x), (2, .ref m0), (3, .ref o)]) (pc := 1165) hx hb dL_law_1165 hl (by decide) rfl (fun ls hl => ?_)
    refine lv_aload_n (pc := 1167) hx hb dL_law_1167 rfl (lv_at hl 4 rfl) ?_
    refine lv_aload_n (pc := 1168) hx hb dL_law_1168 rfl (lv_at hl 2 rfl) ?_
    refine lv_iload (pc := 1169) hx hb dL_law_1169 (lv_at hl 1 rfl) ?_
    refine lv_iconst (pc := 1171) (v := iv 1) hx hb dL_law_1171 rfl ?_
    refine r_iadd (pc := 1172) (a := 7 * (k : Int)) (b := 1) hx hb dL_law_1172 ?_
    refine r_sld (pc := 1173) (z := (7 * (k : Int)) + 1) (v := ch) hC hX hbl hbA hS ⟨by omega, by omega, by omega⟩ hz_ch dL_law_1173 ?_
    refine c_callV (pc := 1174) (y := yX5_behind) (As := [.int (iv ch)]) (rest := []) hC hE hP hD hS hl.1 (c_m_behind l ε m0 ad n G ([(o, eJ ε 1 (va_up g 0 (n 3 - G 12 ch.toNat)))] ++ va_pl L2 f2) ch rch hI.2.1 hI.2.2.1 hI.2.2.2.1.1) m_22_14 m_22_15 m_22_16 m_0_5 m_22_17 wM_o rfl hd_yX5_behind rfl ⟨⟨by decide, by decide⟩, (by show 40 + 20 * k + 1 + 0 ≤ 601024; omega), (by show 5000 + 3400 * k + 6 + 0 ≤ 7293034; omega)⟩ (Nat.le_of_ble_eq_true rfl) rfl dL_law_1174 kxN (fun v9 w9 H locs hq hP hD hS => ?_)
    rcases hq with hq | hq
    · obtain ⟨hd9, hv_, hw_⟩ := hq
      clear hC hE hK hx hb hI hR hR2 nx hP hD hS hl hX
      exfalso
      omega
    · obtain ⟨hd9, hv_, hw_⟩ := hq
      rw [hw_] at hP hD
      rw [hv_]
      clear hv_ hw_
      dsimp only [Option.toList, List.cons_append, List.nil_append]
      have hct := (hI.2.2.2.1.2 ch hc9.1 hc9.2).1
      refine lv_istore (lv' := [(6, .int (iv (n 3 - G 12 ch.toNat))), (5, .int (iv 0)), (4, .int (iv (7 * (k : Int)))), (0, .ref b), (1, .ref x), (2, .ref m0), (3, .ref o)]) (pc := 1177) hx hb dL_law_1177 hl (by decide) rfl (fun ls hl => ?_)
      refine lv_aload_n (pc := 1179) hx hb dL_law_1179 rfl (lv_at hl 5 rfl) ?_
      refine c_callV (pc := 1180) (y := yX5_thrown) (As := []) (rest := []) hC hE hP hD hS hl.1 (c_m_thrown l ε m0 ad (va_up n 5 0) G ([(o, eJ ε 1 (va_up g 0 (n 3 - G 12 ch.toNat)))] ++ va_pl L2 f2)) m_3_8 m_3_9 m_3_10 m_0_5 m_3_11 wM_o rfl hd_yX5_thrown rfl ⟨⟨by decide, by decide⟩, (by show 40 + 20 * k + 1 + 0 + 0 ≤ 601024; omega), (by show 5000 + 3400 * k + 6 + 0 + 0 ≤ 7293034; omega)⟩ (Nat.le_of_ble_eq_true rfl) rfl dL_law_1180 kxN (fun v9 w9 H locs hq hP hD hS => ?_)
      rw [hq.2] at hP hD
      rw [hq.1]
      dsimp only [Option.toList, List.cons_append, List.nil_append]
      rw [show (va_up n 5 0) 5 = 0 from rfl]
      refine lv_iload (pc := 1183) hx hb dL_law_1183 (lv_at hl 1 rfl) ?_
      refine r_icmp_eq (pc := 1185) (a := 0) (b := 0) hx hb dL_law_1185 (tgt := 1190) (by decide) ⟨by omega, by omega⟩ ⟨by omega, by omega⟩ (fun c_1185 => ?_) (fun c_1185 => ?_)
      · have c_1185_ := c_1185
        refine lv_iload (pc := 1190) hx hb dL_law_1190 (lv_at hl 1 rfl) ?_
        refine r_if_ne (pc := 1192) (a := 0) hx hb dL_law_1192 (tgt := 1207) (by decide) ⟨by omega, by omega⟩ (fun c_1192 => ?_) (fun c_1192 => ?_)
        · exact absurd c_1192 (by decide)
        · have c_1192_ := c_1192
          refine lv_aload_n (pc := 1195) hx hb dL_law_1195 rfl (lv_at hl 6 rfl) ?_
          refine lv_iconst (pc := 1196) (v := iv 0) hx hb dL_law_1196 rfl ?_
          refine r_jald (pc := 1197) (z := 0) hC hK hP wM_out ⟨by decide, by decide, by decide⟩ dL_law_1197 ?_
          rw [show (va_up g 0 (n 3 - G 12 ch.toNat)) (Int.toNat 0) = n 3 - G 12 ch.toNat from va_up_self _ _ _]
          refine lv_iload (pc := 1198) hx hb dL_law_1198 (lv_at hl 0 rfl) ?_
          refine lv_i2l (pc := 1200) (v := jv (n 3 - G 12 ch.toNat)) hx hb dL_law_1200 (iv_long _ ⟨by omega, by omega⟩) ?_
          refine W.lcmp (pc := 1201) (x := jv (n 3 - G 12 ch.toNat)) (y := jv (n 3 - G 12 ch.toNat)) hx hb dL_law_1201 ?_
          rw [lg_cmp_jv ⟨by omega, by omega⟩ ⟨by omega, by omega⟩]
          have hcm_1201 := cmpI_self (n 3 - G 12 ch.toNat)
          refine r_if_eq (pc := 1202) (a := cmpI (n 3 - G 12 ch.toNat) (n 3 - G 12 ch.toNat)) hx hb dL_law_1202 (tgt := 1207) (by decide) ⟨by omega, by omega⟩ (fun c_1202 => ?_) (fun c_1202 => ?_)
          · have c_1202_ := c_1202
            refine lv_goto (pc := 1207) (tgt := 1396) hx hb dL_law_1207 (by decide) ?_
            refine W.widen (k := 40 + 20 * (k + 1)) (n := 5000 + 3400 * (k + 1)) (by show 40 + 20 * k + 1 + 0 + 0 ≤ _; omega) (by show 5000 + 3400 * k + 6 + 0 + 0 ≤ _; omega) ?_
            exact nx (va_up n 5 0) G (va_up g 0 (n 3 - G 12 ch.toNat)) L2 f2 ρ2 _ _ _ ⟨INV.n5 hI, (show n 3 ≤ ((k + 1 : Nat) : Int) by omega), RX.num hR2 rfl rfl rfl rfl rfl⟩ hP hD hS (lv_sub hl [2, 3, 4, 5, 6] rfl)
          · have c_1202_ := c_1202
            exact absurd (cmpI_self _) c_1202
      · exact absurd c_1185 (by decide)
  · obtain ⟨hc9, hv_, L2, f2, ρ2, hw_, hR2⟩ := hq
    rw [hw_, List.append_assoc] at hP hD
    rw [hv_]
    clear hv_ hw_
    dsimp only [Option.toList, List.cons_append, List.nil_append]
    refine lv_istore (lv' := [(5, .int (iv 1)), (4, .int (iv (7 * (k : Int)))), (0, .ref b), (1, .ref x), (2, .ref m0), (3, .ref o)]) (pc := 1165) hx hb dL_law_1165 hl (by decide) rfl (fun ls hl => ?_)
    refine lv_aload_n (pc := 1167) hx hb dL_law_1167 rfl (lv_at hl 4 rfl) ?_
    refine lv_aload_n (pc := 1168) hx hb dL_law_1168 rfl (lv_at hl 2 rfl) ?_
    refine lv_iload (pc := 1169) hx hb dL_law_1169 (lv_at hl 1 rfl) ?_
    refine lv_iconst (pc := 1171) (v := iv 1) hx hb dL_law_1171 rfl ?_
    refine r_iadd (pc := 1172) (a := 7 * (k : Int)) (b := 1) hx hb dL_law_1172 ?_
    refine r_sld (pc := 1173) (z := (7 * (k : Int)) + 1) (v := ch) hC hX hbl hbA hS ⟨by omega, by omega, by omega⟩ hz_ch dL_law_1173 ?_
    refine c_callV (pc := 1174) (y := yX5_behind) (As := [.int (iv ch)]) (rest := []) hC hE hP hD hS hl.1 (c_m_behind l ε m0 ad n G ([(o, eJ ε 1 g)] ++ va_pl L2 f2) ch rch hI.2.1 hI.2.2.1 hI.2.2.2.1.1) m_22_14 m_22_15 m_22_16 m_0_5 m_22_17 wM_o rfl hd_yX5_behind rfl ⟨⟨by decide, by decide⟩, (by show 40 + 20 * k + 1 + 0 ≤ 601024; omega), (by show 5000 + 3400 * k + 6 + 0 ≤ 7293034; omega)⟩ (Nat.le_of_ble_eq_true rfl) rfl dL_law_1174 kxN (fun v9 w9 H locs hq hP hD hS => ?_)
    rcases hq with hq | hq
    · obtain ⟨hd9, hv_, hw_⟩ := hq
      rw [hw_] at hP hD
      rw [hv_]
      clear hv_ hw_
      dsimp only [Option.toList, List.cons_append, List.nil_append]
      refine lv_istore (lv' := [(6, .int (iv 0)), (5, .int (iv 1)), (4, .int (iv (7 * (k : Int)))), (0, .ref b), (1, .ref x), (2, .ref m0), (3, .ref o)]) (pc := 1177) hx hb dL_law_1177 hl (by decide) rfl (fun ls hl => ?_)
      refine lv_aload_n (pc := 1179) hx hb dL_law_1179 rfl (lv_at hl 5 rfl) ?_
      refine c_callV (pc := 1180) (y := yX5_thrown) (As := []) (rest := []) hC hE hP hD hS hl.1 (c_m_thrown l ε m0 ad (va_up n 5 1) G ([(o, eJ ε 1 g)] ++ va_pl L2 f2)) m_3_8 m_3_9 m_3_10 m_0_5 m_3_11 wM_o rfl hd_yX5_thrown rfl ⟨⟨by decide, by decide⟩, (by show 40 + 20 * k + 1 + 0 + 0 ≤ 601024; omega), (by show 5000 + 3400 * k + 6 + 0 + 0 ≤ 7293034; omega)⟩ (Nat.le_of_ble_eq_true rfl) rfl dL_law_1180 kxN (fun v9 w9 H locs hq hP hD hS => ?_)
      rw [hq.2] at hP hD
      rw [hq.1]
      dsimp only [Option.toList, List.cons_append, List.nil_append]
      rw [show (va_up n 5 1) 5 = 1 from rfl]
      refine lv_iload (pc := 1183) hx hb dL_law_1183 (lv_at hl 1 rfl) ?_
      refine r_icmp_eq (pc := 1185) (a := 1) (b := 1) hx hb dL_law_1185 (tgt := 1190) (by decide) ⟨by omega, by omega⟩ ⟨by omega, by omega⟩ (fun c_1185 => ?_) (fun c_1185 => ?_)
      · have c_1185_ := c_1185
        refine lv_iload (pc := 1190) hx hb dL_law_1190 (lv_at hl 1 rfl) ?_
        refine r_if_ne (pc := 1192) (a := 1) hx hb dL_law_1192 (tgt := 1207) (by decide) ⟨by omega, by omega⟩ (fun c_1192 => ?_) (fun c_1192 => ?_)
        · have c_1192_ := c_1192
          refine lv_goto (pc := 1207) (tgt := 1396) hx hb dL_law_1207 (by decide) ?_
          refine W.widen (k := 40 + 20 * (k + 1)) (n := 5000 + 3400 * (k + 1)) (by show 40 + 20 * k + 1 + 0 + 0 ≤ _; omega) (by show 5000 + 3400 * k + 6 + 0 + 0 ≤ _; omega) ?_
          exact nx (va_up n 5 1) G g L2 f2 ρ2 _ _ _ ⟨INV.n5 hI, (show n 3 ≤ ((k + 1 : Nat) : Int) by omega), RX.num hR2 rfl rfl rfl rfl rfl⟩ hP hD hS (lv_sub hl [2, 3, 4, 5, 6] rfl)
        · exact absurd c_1192 (by decide)
      · exact absurd c_1185 (by decide)
    · obtain ⟨hd9, hv_, hw_⟩ := hq
      clear hC hE hK hx hb hI hR hR2 nx hP hD hS hl hX
      exfalso
      omega

set_option maxRecDepth 100000 in
set_option maxHeartbeats 4000000 in
theorem law_c17 {p : Program} {l : Launch} {e : Env} {s : State} {m : MethodId} {b N : Nat} {xs : Nat → Int32} {below : List Frame} {meth : Method} {c : Code} {ε : EV} {x m0 : Nat} {ad : Nat → Nat} {o : Nat} {Q : State → Prop} {k : Nat} (h0 : LCX p l s m b N xs meth c ε k) (nx : LAT p l e s m b below meth c ε x m0 ad o Q 1396 k (k + 1)) : LAT p l e s m b below meth c ε x m0 ad o Q 1210 k k := by
  intro n G g L f ρ H locs ls hW hP hD hS hl
  obtain ⟨hI, h3, hR⟩ := hW
  obtain ⟨⟨nm9, tb9, hC⟩, hE, hst, hX, hbl, hbA, hN1, hN2⟩ := h0
  have hx := hC.1
  have hb := hC.2.1
  have hK := hE.K
  have hnb := hI.NB
  obtain ⟨ch, hz_ch⟩ : ∃ z : Int, z = ZZ xs (7 * (k : Int) + 1) := ⟨_, rfl⟩
  have rch : rg ch := by rw [hz_ch]; exact ZZ_rg _ _
  obtain ⟨i, hz_i⟩ : ∃ z : Int, z = ZZ xs (7 * (k : Int) + 2) := ⟨_, rfl⟩
  have ri : rg i := by rw [hz_i]; exact ZZ_rg _ _
  refine lv_aload_n (pc := 1210) hx hb dL_law_1210 rfl (lv_at hl 2 rfl) ?_
  refine lv_aload_n (pc := 1211) hx hb dL_law_1211 rfl (lv_at hl 1 rfl) ?_
  refine lv_iload (pc := 1212) hx hb dL_law_1212 (lv_at hl 0 rfl) ?_
  refine lv_iconst (pc := 1214) (v := iv 1) hx hb dL_law_1214 rfl ?_
  refine r_iadd (pc := 1215) (a := 7 * (k : Int)) (b := 1) hx hb dL_law_1215 ?_
  refine r_sld (pc := 1216) (z := (7 * (k : Int)) + 1) (v := ch) hC hX hbl hbA hS ⟨by omega, by omega, by omega⟩ hz_ch dL_law_1216 ?_
  refine lv_aload_n (pc := 1217) hx hb dL_law_1217 rfl (lv_at hl 1 rfl) ?_
  refine lv_iload (pc := 1218) hx hb dL_law_1218 (lv_at hl 0 rfl) ?_
  refine lv_iconst (pc := 1220) (v := iv 2) hx hb dL_law_1220 rfl ?_
  refine r_iadd (pc := 1221) (a := 7 * (k : Int)) (b := 2) hx hb dL_law_1221 ?_
  refine r_sld (pc := 1222) (z := (7 * (k : Int)) + 2) (v := i) hC hX hbl hbA hS ⟨by omega, by omega, by omega⟩ hz_i dL_law_1222 ?_
  refine lv_aload_n (pc := 1223) hx hb dL_law_1223 rfl (lv_at hl 4 rfl) ?_
  replace hP : WP ε ((wM ε m0 ad n G ++ [(o, eJ ε 1 g)]) ++ va_pl L f) H := by rw [List.append_assoc]; exact hP
  replace hD : WD ε ((wM ε m0 ad n G ++ [(o, eJ ε 1 g)]) ++ va_pl L f) := by rw [List.append_assoc]; exact hD
  refine c_callSW (pc := 1224) (y := yL_shown) (hh := [(0, 10, 13, 24)]) (As := [.ref x, .int (iv ch), .int (iv i), .ref o]) (rest := []) hC hE hP hD hS hl.1 (c_L_shown l ε (wM ε m0 ad n G) o g L f ρ hst x n G hR hI ch i rch ri) m_22_18 m_22_19 m_2_9 m_22_20 hd_yL_shown rfl ⟨⟨by decide, by decide⟩, (by show 40 + 20 * k + 2 ≤ 601024; omega), (by show 5000 + 3400 * k + 12 ≤ 7293034; omega)⟩ (Nat.le_of_ble_eq_true rfl) rfl dL_law_1224 kxN (fun v9 w9 H locs hq hP hD hS => ?_)
  rcases hq with hq | hq
  · obtain ⟨hc9, hv_, L2, f2, ρ2, hw_, hR2⟩ := hq
    rw [hw_, List.append_assoc] at hP hD
    rw [hv_]
    clear hv_ hw_
    dsimp only [Option.toList, List.cons_append, List.nil_append]
    refine lv_istore (lv' := [(5, .int (iv 0)), (4, .int (iv (7 * (k : Int)))), (0, .ref b), (1, .ref x), (2, .ref m0), (3, .ref o)]) (pc := 1227) hx hb dL_law_1227 hl (by decide) rfl (fun ls hl => ?_)
    refine lv_aload_n (pc := 1229) hx hb dL_law_1229 rfl (lv_at hl 4 rfl) ?_
    refine lv_aload_n (pc := 1230) hx hb dL_law_1230 rfl (lv_at hl 2 rfl) ?_
    refine lv_iload (pc := 1231) hx hb dL_law_1231 (lv_at hl 1 rfl) ?_
    refine lv_iconst (pc := 1233) (v := iv 1) hx hb dL_law_1233 rfl ?_
    refine r_iadd (pc := 1234) (a := 7 * (k : Int)) (b := 1) hx hb dL_law_1234 ?_
    refine r_sld (pc := 1235) (z := (7 * (k : Int)) + 1) (v := ch) hC hX hbl hbA hS ⟨by omega, by omega, by omega⟩ hz_ch dL_law_1235 ?_
    refine lv_aload_n (pc := 1236) hx hb dL_law_1236 rfl (lv_at hl 2 rfl) ?_
    refine lv_iload (pc := 1237) hx hb dL_law_1237 (lv_at hl 1 rfl) ?_
    refine lv_iconst (pc := 1239) (v := iv 2) hx hb dL_law_1239 rfl ?_
    refine r_iadd (pc := 1240) (a := 7 * (k : Int)) (b := 2) hx hb dL_law_1240 ?_
    refine r_sld (pc := 1241) (z := (7 * (k : Int)) + 2) (v := i) hC hX hbl hbA hS ⟨by omega, by omega, by omega⟩ hz_i dL_law_1241 ?_
    refine c_callV (pc := 1242) (y := yX5_shown) (As := [.int (iv ch), .int (iv i)]) (rest := []) hC hE hP hD hS hl.1 (c_m_shown l ε m0 ad n G ([(o, eJ ε 1 (va_up g 0 (G 13 (12 * ch + i).toNat)))] ++ va_pl L2 f2) ch i rch ri hI.2.1 hI.2.2.1 hI.2.2.2.1.1) m_23_4 m_23_5 m_23_6 m_0_5 m_23_7 wM_o rfl hd_yX5_shown rfl ⟨⟨by decide, by decide⟩, (by show 40 + 20 * k + 2 + 0 ≤ 601024; omega), (by show 5000 + 3400 * k + 12 + 0 ≤ 7293034; omega)⟩ (Nat.le_of_ble_eq_true rfl) rfl dL_law_1242 kxN (fun v9 w9 H locs hq hP hD hS => ?_)
    rcases hq with hq | hq
    · obtain ⟨hd9, hv_, hw_⟩ := hq
      clear hC hE hK hx hb hI hR hR2 nx hP hD hS hl hX
      exfalso
      omega
    · obtain ⟨hd9, hv_, hw_⟩ := hq
      rw [hw_] at hP hD
      rw [hv_]
      clear hv_ hw_
      dsimp only [Option.toList, List.cons_append, List.nil_append]
      have hct := (hI.2.2.2.1.2 ch hc9.1.1 hc9.1.2).2 i hc9.2.1 (by omega)
      refine lv_istore (lv' := [(6, .int (iv (G 13 (12 * ch + i).toNat))), (5, .int (iv 0)), (4, .int (iv (7 * (k : Int)))), (0, .ref b), (1, .ref x), (2, .ref m0), (3, .ref o)]) (pc := 1245) hx hb dL_law_1245 hl (by decide) rfl (fun ls hl => ?_)
      refine lv_aload_n (pc := 1247) hx hb dL_law_1247 rfl (lv_at hl 5 rfl) ?_
      refine c_callV (pc := 1248) (y := yX5_thrown) (As := []) (rest := []) hC hE hP hD hS hl.1 (c_m_thrown l ε m0 ad (va_up n 5 0) G ([(o, eJ ε 1 (va_up g 0 (G 13 (12 * ch + i).toNat)))] ++ va_pl L2 f2)) m_3_8 m_3_9 m_3_10 m_0_5 m_3_11 wM_o rfl hd_yX5_thrown rfl ⟨⟨by decide, by decide⟩, (by show 40 + 20 * k + 2 + 0 + 0 ≤ 601024; omega), (by show 5000 + 3400 * k + 12 + 0 + 0 ≤ 7293034; omega)⟩ (Nat.le_of_ble_eq_true rfl) rfl dL_law_1248 kxN (fun v9 w9 H locs hq hP hD hS => ?_)
      rw [hq.2] at hP hD
      rw [hq.1]
      dsimp only [Option.toList, List.cons_append, List.nil_append]
      rw [show (va_up n 5 0) 5 = 0 from rfl]
      refine lv_iload (pc := 1251) hx hb dL_law_1251 (lv_at hl 1 rfl) ?_
      refine r_icmp_eq (pc := 1253) (a := 0) (b := 0) hx hb dL_law_1253 (tgt := 1258) (by decide) ⟨by omega, by omega⟩ ⟨by omega, by omega⟩ (fun c_1253 => ?_) (fun c_1253 => ?_)
      · have c_1253_ := c_1253
        refine lv_iload (pc := 1258) hx hb dL_law_1258 (lv_at hl 1 rfl) ?_
        refine r_if_ne (pc := 1260) (a := 0) hx hb dL_law_1260 (tgt := 1275) (by decide) ⟨by omega, by omega⟩ (fun c_1260 => ?_) (fun c_1260 => ?_)
        · exact absurd c_1260 (by decide)
        · have c_1260_ := c_1260
          refine lv_aload_n (pc := 1263) hx hb dL_law_1263 rfl (lv_at hl 6 rfl) ?_
          refine lv_iconst (pc := 1264) (v := iv 0) hx hb dL_law_1264 rfl ?_
          refine r_jald (pc := 1265) (z := 0) hC hK hP wM_out ⟨by decide, by decide, by decide⟩ dL_law_1265 ?_
          rw [show (va_up g 0 (G 13 (12 * ch + i).toNat)) (Int.toNat 0) = G 13 (12 * ch + i).toNat from va_up_self _ _ _]
          refine lv_iload (pc := 1266) hx hb dL_law_1266 (lv_at hl 0 rfl) ?_
          refine lv_i2l (pc := 1268) (v := jv (G 13 (12 * ch + i).toNat)) hx hb dL_law_1268 (iv_long _ ⟨by omega, by omega⟩) ?_
          refine W.lcmp (pc := 1269) (x := jv (G 13 (12 * ch + i).toNat)) (y := jv (G 13 (12 * ch + i).toNat)) hx hb dL_law_1269 ?_
          rw [lg_cmp_jv ⟨by omega, by omega⟩ ⟨by omega, by omega⟩]
          have hcm_1269 := cmpI_self (G 13 (12 * ch + i).toNat)
          refine r_if_eq (pc := 1270) (a := cmpI (G 13 (12 * ch + i).toNat) (G 13 (12 * ch + i).toNat)) hx hb dL_law_1270 (tgt := 1275) (by decide) ⟨by omega, by omega⟩ (fun c_1270 => ?_) (fun c_1270 => ?_)
          · have c_1270_ := c_1270
            refine lv_goto (pc := 1275) (tgt := 1396) hx hb dL_law_1275 (by decide) ?_
            refine W.widen (k := 40 + 20 * (k + 1)) (n := 5000 + 3400 * (k + 1)) (by show 40 + 20 * k + 2 + 0 + 0 ≤ _; omega) (by show 5000 + 3400 * k + 12 + 0 + 0 ≤ _; omega) ?_
            exact nx (va_up n 5 0) G (va_up g 0 (G 13 (12 * ch + i).toNat)) L2 f2 ρ2 _ _ _ ⟨INV.n5 hI, (show n 3 ≤ ((k + 1 : Nat) : Int) by omega), RX.num hR2 rfl rfl rfl rfl rfl⟩ hP hD hS (lv_sub hl [2, 3, 4, 5, 6] rfl)
          · have c_1270_ := c_1270
            exact absurd (cmpI_self _) c_1270
      · exact absurd c_1253 (by decide)
  · obtain ⟨hc9, hv_, L2, f2, ρ2, hw_, hR2⟩ := hq
    rw [hw_, List.append_assoc] at hP hD
    rw [hv_]
    clear hv_ hw_
    dsimp only [Option.toList, List.cons_append, List.nil_append]
    refine lv_istore (lv' := [(5, .int (iv 1)), (4, .int (iv (7 * (k : Int)))), (0, .ref b), (1, .ref x), (2, .ref m0), (3, .ref o)]) (pc := 1227) hx hb dL_law_1227 hl (by decide) rfl (fun ls hl => ?_)
    refine lv_aload_n (pc := 1229) hx hb dL_law_1229 rfl (lv_at hl 4 rfl) ?_
    refine lv_aload_n (pc := 1230) hx hb dL_law_1230 rfl (lv_at hl 2 rfl) ?_
    refine lv_iload (pc := 1231) hx hb dL_law_1231 (lv_at hl 1 rfl) ?_
    refine lv_iconst (pc := 1233) (v := iv 1) hx hb dL_law_1233 rfl ?_
    refine r_iadd (pc := 1234) (a := 7 * (k : Int)) (b := 1) hx hb dL_law_1234 ?_
    refine r_sld (pc := 1235) (z := (7 * (k : Int)) + 1) (v := ch) hC hX hbl hbA hS ⟨by omega, by omega, by omega⟩ hz_ch dL_law_1235 ?_
    refine lv_aload_n (pc := 1236) hx hb dL_law_1236 rfl (lv_at hl 2 rfl) ?_
    refine lv_iload (pc := 1237) hx hb dL_law_1237 (lv_at hl 1 rfl) ?_
    refine lv_iconst (pc := 1239) (v := iv 2) hx hb dL_law_1239 rfl ?_
    refine r_iadd (pc := 1240) (a := 7 * (k : Int)) (b := 2) hx hb dL_law_1240 ?_
    refine r_sld (pc := 1241) (z := (7 * (k : Int)) + 2) (v := i) hC hX hbl hbA hS ⟨by omega, by omega, by omega⟩ hz_i dL_law_1241 ?_
    refine c_callV (pc := 1242) (y := yX5_shown) (As := [.int (iv ch), .int (iv i)]) (rest := []) hC hE hP hD hS hl.1 (c_m_shown l ε m0 ad n G ([(o, eJ ε 1 g)] ++ va_pl L2 f2) ch i rch ri hI.2.1 hI.2.2.1 hI.2.2.2.1.1) m_23_4 m_23_5 m_23_6 m_0_5 m_23_7 wM_o rfl hd_yX5_shown rfl ⟨⟨by decide, by decide⟩, (by show 40 + 20 * k + 2 + 0 ≤ 601024; omega), (by show 5000 + 3400 * k + 12 + 0 ≤ 7293034; omega)⟩ (Nat.le_of_ble_eq_true rfl) rfl dL_law_1242 kxN (fun v9 w9 H locs hq hP hD hS => ?_)
    rcases hq with hq | hq
    · obtain ⟨hd9, hv_, hw_⟩ := hq
      rw [hw_] at hP hD
      rw [hv_]
      clear hv_ hw_
      dsimp only [Option.toList, List.cons_append, List.nil_append]
      refine lv_istore (lv' := [(6, .int (iv 0)), (5, .int (iv 1)), (4, .int (iv (7 * (k : Int)))), (0, .ref b), (1, .ref x), (2, .ref m0), (3, .ref o)]) (pc := 1245) hx hb dL_law_1245 hl (by decide) rfl (fun ls hl => ?_)
      refine lv_aload_n (pc := 1247) hx hb dL_law_1247 rfl (lv_at hl 5 rfl) ?_
      refine c_callV (pc := 1248) (y := yX5_thrown) (As := []) (rest := []) hC hE hP hD hS hl.1 (c_m_thrown l ε m0 ad (va_up n 5 1) G ([(o, eJ ε 1 g)] ++ va_pl L2 f2)) m_3_8 m_3_9 m_3_10 m_0_5 m_3_11 wM_o rfl hd_yX5_thrown rfl ⟨⟨by decide, by decide⟩, (by show 40 + 20 * k + 2 + 0 + 0 ≤ 601024; omega), (by show 5000 + 3400 * k + 12 + 0 + 0 ≤ 7293034; omega)⟩ (Nat.le_of_ble_eq_true rfl) rfl dL_law_1248 kxN (fun v9 w9 H locs hq hP hD hS => ?_)
      rw [hq.2] at hP hD
      rw [hq.1]
      dsimp only [Option.toList, List.cons_append, List.nil_append]
      rw [show (va_up n 5 1) 5 = 1 from rfl]
      refine lv_iload (pc := 1251) hx hb dL_law_1251 (lv_at hl 1 rfl) ?_
      refine r_icmp_eq (pc := 1253) (a := 1) (b := 1) hx hb dL_law_1253 (tgt := 1258) (by decide) ⟨by omega, by omega⟩ ⟨by omega, by omega⟩ (fun c_1253 => ?_) (fun c_1253 => ?_)
      · have c_1253_ := c_1253
        refine lv_iload (pc := 1258) hx hb dL_law_1258 (lv_at hl 1 rfl) ?_
        refine r_if_ne (pc := 1260) (a := 1) hx hb dL_law_1260 (tgt := 1275) (by decide) ⟨by omega, by omega⟩ (fun c_1260 => ?_) (fun c_1260 => ?_)
        · have c_1260_ := c_1260
          refine lv_goto (pc := 1275) (tgt := 1396) hx hb dL_law_1275 (by decide) ?_
          refine W.widen (k := 40 + 20 * (k + 1)) (n := 5000 + 3400 * (k + 1)) (by show 40 + 20 * k + 2 + 0 + 0 ≤ _; omega) (by show 5000 + 3400 * k + 12 + 0 + 0 ≤ _; omega) ?_
          exact nx (va_up n 5 1) G g L2 f2 ρ2 _ _ _ ⟨INV.n5 hI, (show n 3 ≤ ((k + 1 : Nat) : Int) by omega), RX.num hR2 rfl rfl rfl rfl rfl⟩ hP hD hS (lv_sub hl [2, 3, 4, 5, 6] rfl)
        · exact absurd c_1260 (by decide)
      · exact absurd c_1253 (by decide)
    · obtain ⟨hd9, hv_, hw_⟩ := hq
      clear hC hE hK hx hb hI hR hR2 nx hP hD hS hl hX
      exfalso
      omega

set_option maxRecDepth 100000 in
set_option maxHeartbeats 4000000 in
theorem law_c18 {p : Program} {l : Launch} {e : Env} {s : State} {m : MethodId} {b N : Nat} {xs : Nat → Int32} {below : List Frame} {meth : Method} {c : Code} {ε : EV} {x m0 : Nat} {ad : Nat → Nat} {o : Nat} {Q : State → Prop} {k : Nat} (h0 : LCX p l s m b N xs meth c ε k) (nx : LAT p l e s m b below meth c ε x m0 ad o Q 1396 k (k + 1)) : LAT p l e s m b below meth c ε x m0 ad o Q 1278 k k := by
  intro n G g L f ρ H locs ls hW hP hD hS hl
  obtain ⟨hI, h3, hR⟩ := hW
  obtain ⟨⟨nm9, tb9, hC⟩, hE, hst, hX, hbl, hbA, hN1, hN2⟩ := h0
  have hx := hC.1
  have hb := hC.2.1
  have hK := hE.K
  have hnb := hI.NB
  obtain ⟨ch, hz_ch⟩ : ∃ z : Int, z = ZZ xs (7 * (k : Int) + 1) := ⟨_, rfl⟩
  have rch : rg ch := by rw [hz_ch]; exact ZZ_rg _ _
  obtain ⟨x9, hz_x9⟩ : ∃ z : Int, z = ZZ xs (7 * (k : Int) + 2) := ⟨_, rfl⟩
  have rx9 : rg x9 := by rw [hz_x9]; exact ZZ_rg _ _
  obtain ⟨y9, hz_y9⟩ : ∃ z : Int, z = ZZ xs (7 * (k : Int) + 3) := ⟨_, rfl⟩
  have ry9 : rg y9 := by rw [hz_y9]; exact ZZ_rg _ _
  obtain ⟨i, hz_i⟩ : ∃ z : Int, z = ZZ xs (7 * (k : Int) + 4) := ⟨_, rfl⟩
  have ri : rg i := by rw [hz_i]; exact ZZ_rg _ _
  obtain ⟨fr, hz_fr⟩ : ∃ z : Int, z = ZZ xs (7 * (k : Int) + 5) := ⟨_, rfl⟩
  have rfr : rg fr := by rw [hz_fr]; exact ZZ_rg _ _
  obtain ⟨many, hz_many⟩ : ∃ z : Int, z = ZZ xs (7 * (k : Int) + 6) := ⟨_, rfl⟩
  have rmany : rg many := by rw [hz_many]; exact ZZ_rg _ _
  refine lv_aload_n (pc := 1278) hx hb dL_law_1278 rfl (lv_at hl 2 rfl) ?_
  refine lv_aload_n (pc := 1279) hx hb dL_law_1279 rfl (lv_at hl 1 rfl) ?_
  refine lv_iload (pc := 1280) hx hb dL_law_1280 (lv_at hl 0 rfl) ?_
  refine lv_iconst (pc := 1282) (v := iv 1) hx hb dL_law_1282 rfl ?_
  refine r_iadd (pc := 1283) (a := 7 * (k : Int)) (b := 1) hx hb dL_law_1283 ?_
  refine r_sld (pc := 1284) (z := (7 * (k : Int)) + 1) (v := ch) hC hX hbl hbA hS ⟨by omega, by omega, by omega⟩ hz_ch dL_law_1284 ?_
  refine lv_aload_n (pc := 1285) hx hb dL_law_1285 rfl (lv_at hl 1 rfl) ?_
  refine lv_iload (pc := 1286) hx hb dL_law_1286 (lv_at hl 0 rfl) ?_
  refine lv_iconst (pc := 1288) (v := iv 2) hx hb dL_law_1288 rfl ?_
  refine r_iadd (pc := 1289) (a := 7 * (k : Int)) (b := 2) hx hb dL_law_1289 ?_
  refine r_sld (pc := 1290) (z := (7 * (k : Int)) + 2) (v := x9) hC hX hbl hbA hS ⟨by omega, by omega, by omega⟩ hz_x9 dL_law_1290 ?_
  refine lv_aload_n (pc := 1291) hx hb dL_law_1291 rfl (lv_at hl 1 rfl) ?_
  refine lv_iload (pc := 1292) hx hb dL_law_1292 (lv_at hl 0 rfl) ?_
  refine lv_iconst (pc := 1294) (v := iv 3) hx hb dL_law_1294 rfl ?_
  refine r_iadd (pc := 1295) (a := 7 * (k : Int)) (b := 3) hx hb dL_law_1295 ?_
  refine r_sld (pc := 1296) (z := (7 * (k : Int)) + 3) (v := y9) hC hX hbl hbA hS ⟨by omega, by omega, by omega⟩ hz_y9 dL_law_1296 ?_
  refine lv_aload_n (pc := 1297) hx hb dL_law_1297 rfl (lv_at hl 1 rfl) ?_
  refine lv_iload (pc := 1298) hx hb dL_law_1298 (lv_at hl 0 rfl) ?_
  refine lv_iconst (pc := 1300) (v := iv 4) hx hb dL_law_1300 rfl ?_
  refine r_iadd (pc := 1301) (a := 7 * (k : Int)) (b := 4) hx hb dL_law_1301 ?_
  refine r_sld (pc := 1302) (z := (7 * (k : Int)) + 4) (v := i) hC hX hbl hbA hS ⟨by omega, by omega, by omega⟩ hz_i dL_law_1302 ?_
  refine lv_aload_n (pc := 1303) hx hb dL_law_1303 rfl (lv_at hl 1 rfl) ?_
  refine lv_iload (pc := 1304) hx hb dL_law_1304 (lv_at hl 0 rfl) ?_
  refine lv_iconst (pc := 1306) (v := iv 5) hx hb dL_law_1306 rfl ?_
  refine r_iadd (pc := 1307) (a := 7 * (k : Int)) (b := 5) hx hb dL_law_1307 ?_
  refine r_sld (pc := 1308) (z := (7 * (k : Int)) + 5) (v := fr) hC hX hbl hbA hS ⟨by omega, by omega, by omega⟩ hz_fr dL_law_1308 ?_
  refine lv_aload_n (pc := 1309) hx hb dL_law_1309 rfl (lv_at hl 1 rfl) ?_
  refine lv_iload (pc := 1310) hx hb dL_law_1310 (lv_at hl 0 rfl) ?_
  refine lv_bipush (pc := 1312) (v := iv 6) hx hb dL_law_1312 (by decide) ?_
  refine r_iadd (pc := 1314) (a := 7 * (k : Int)) (b := 6) hx hb dL_law_1314 ?_
  refine r_sld (pc := 1315) (z := (7 * (k : Int)) + 6) (v := many) hC hX hbl hbA hS ⟨by omega, by omega, by omega⟩ hz_many dL_law_1315 ?_
  refine lv_aload_n (pc := 1316) hx hb dL_law_1316 rfl (lv_at hl 4 rfl) ?_
  replace hP : WP ε ((wM ε m0 ad n G ++ [(o, eJ ε 1 g)]) ++ va_pl L f) H := by rw [List.append_assoc]; exact hP
  replace hD : WD ε ((wM ε m0 ad n G ++ [(o, eJ ε 1 g)]) ++ va_pl L f) := by rw [List.append_assoc]; exact hD
  refine c_callSW (pc := 1317) (y := yL_taken) (hh := [(0, 18, 21, 24), (0, 18, 25, 13)]) (As := [.ref x, .int (iv ch), .int (iv x9), .int (iv y9), .int (iv i), .int (iv fr), .int (iv many), .ref o]) (rest := []) hC hE hP hD hS hl.1 (c_L_taken l ε (wM ε m0 ad n G) o g L f ρ hst x n G hR hI ch x9 y9 i fr many rch rx9 ry9 ri rfr rmany) m_23_8 m_23_9 m_2_9 m_23_10 hd_yL_taken rfl ⟨⟨by decide, by decide⟩, (by show 40 + 20 * k + 6 ≤ 601024; omega), (by show 5000 + 3400 * k + 36 ≤ 7293034; omega)⟩ (Nat.le_of_ble_eq_true rfl) rfl dL_law_1317 kxN (fun v9 w9 H locs hq hP hD hS => ?_)
  rcases hq with hq | hq | hq
  · obtain ⟨hc9, hv_, L2, f2, ρ2, hw_, hR2⟩ := hq
    rw [hw_, List.append_assoc] at hP hD
    rw [hv_]
    clear hv_ hw_
    dsimp only [Option.toList, List.cons_append, List.nil_append]
    refine lv_istore (lv' := [(5, .int (iv 0)), (4, .int (iv (7 * (k : Int)))), (0, .ref b), (1, .ref x), (2, .ref m0), (3, .ref o)]) (pc := 1320) hx hb dL_law_1320 hl (by decide) rfl (fun ls hl => ?_)
    refine lv_aload_n (pc := 1322) hx hb dL_law_1322 rfl (lv_at hl 4 rfl) ?_
    refine lv_aload_n (pc := 1323) hx hb dL_law_1323 rfl (lv_at hl 2 rfl) ?_
    refine lv_iload (pc := 1324) hx hb dL_law_1324 (lv_at hl 1 rfl) ?_
    refine lv_iconst (pc := 1326) (v := iv 1) hx hb dL_law_1326 rfl ?_
    refine r_iadd (pc := 1327) (a := 7 * (k : Int)) (b := 1) hx hb dL_law_1327 ?_
    refine r_sld (pc := 1328) (z := (7 * (k : Int)) + 1) (v := ch) hC hX hbl hbA hS ⟨by omega, by omega, by omega⟩ hz_ch dL_law_1328 ?_
    refine lv_aload_n (pc := 1329) hx hb dL_law_1329 rfl (lv_at hl 2 rfl) ?_
    refine lv_iload (pc := 1330) hx hb dL_law_1330 (lv_at hl 1 rfl) ?_
    refine lv_iconst (pc := 1332) (v := iv 2) hx hb dL_law_1332 rfl ?_
    refine r_iadd (pc := 1333) (a := 7 * (k : Int)) (b := 2) hx hb dL_law_1333 ?_
    refine r_sld (pc := 1334) (z := (7 * (k : Int)) + 2) (v := x9) hC hX hbl hbA hS ⟨by omega, by omega, by omega⟩ hz_x9 dL_law_1334 ?_
    refine lv_aload_n (pc := 1335) hx hb dL_law_1335 rfl (lv_at hl 2 rfl) ?_
    refine lv_iload (pc := 1336) hx hb dL_law_1336 (lv_at hl 1 rfl) ?_
    refine lv_iconst (pc := 1338) (v := iv 3) hx hb dL_law_1338 rfl ?_
    refine r_iadd (pc := 1339) (a := 7 * (k : Int)) (b := 3) hx hb dL_law_1339 ?_
    refine r_sld (pc := 1340) (z := (7 * (k : Int)) + 3) (v := y9) hC hX hbl hbA hS ⟨by omega, by omega, by omega⟩ hz_y9 dL_law_1340 ?_
    refine lv_aload_n (pc := 1341) hx hb dL_law_1341 rfl (lv_at hl 2 rfl) ?_
    refine lv_iload (pc := 1342) hx hb dL_law_1342 (lv_at hl 1 rfl) ?_
    refine lv_iconst (pc := 1344) (v := iv 4) hx hb dL_law_1344 rfl ?_
    refine r_iadd (pc := 1345) (a := 7 * (k : Int)) (b := 4) hx hb dL_law_1345 ?_
    refine r_sld (pc := 1346) (z := (7 * (k : Int)) + 4) (v := i) hC hX hbl hbA hS ⟨by omega, by omega, by omega⟩ hz_i dL_law_1346 ?_
    refine lv_aload_n (pc := 1347) hx hb dL_law_1347 rfl (lv_at hl 2 rfl) ?_
    refine lv_iload (pc := 1348) hx hb dL_law_1348 (lv_at hl 1 rfl) ?_
    refine lv_iconst (pc := 1350) (v := iv 5) hx hb dL_law_1350 rfl ?_
    refine r_iadd (pc := 1351) (a := 7 * (k : Int)) (b := 5) hx hb dL_law_1351 ?_
    refine r_sld (pc := 1352) (z := (7 * (k : Int)) + 5) (v := fr) hC hX hbl hbA hS ⟨by omega, by omega, by omega⟩ hz_fr dL_law_1352 ?_
    refine lv_aload_n (pc := 1353) hx hb dL_law_1353 rfl (lv_at hl 2 rfl) ?_
    refine lv_iload (pc := 1354) hx hb dL_law_1354 (lv_at hl 1 rfl) ?_
    refine lv_bipush (pc := 1356) (v := iv 6) hx hb dL_law_1356 (by decide) ?_
    refine r_iadd (pc := 1358) (a := 7 * (k : Int)) (b := 6) hx hb dL_law_1358 ?_
    refine r_sld (pc := 1359) (z := (7 * (k : Int)) + 6) (v := many) hC hX hbl hbA hS ⟨by omega, by omega, by omega⟩ hz_many dL_law_1359 ?_
    refine c_callV (pc := 1360) (y := yX5_taken) (As := [.int (iv ch), .int (iv x9), .int (iv y9), .int (iv i), .int (iv fr), .int (iv many)]) (rest := []) hC hE hP hD hS hl.1 (c_m_taken l ε m0 ad n G ([(o, eJ ε 1 (va_up g 0 (TK (CAN2 G ch x9 y9 i fr many) (n 2).toNat)))] ++ va_pl L2 f2) ch x9 y9 i fr many rch rx9 ry9 ri rfr rmany hI.2.1 hI.2.2.1 hI.2.2.2.1) m_24_2 m_24_3 m_24_4 m_0_5 m_24_5 wM_o rfl hd_yX5_taken rfl ⟨⟨by decide, by decide⟩, (by show 40 + 20 * k + 6 + 0 ≤ 601024; omega), (by show 5000 + 3400 * k + 36 + 0 ≤ 7293034; omega)⟩ (Nat.le_of_ble_eq_true rfl) rfl dL_law_1360 kxN (fun v9 w9 H locs hq hP hD hS => ?_)
    rcases hq with hq | hq | hq
    · obtain ⟨hd9, hv_, hw_⟩ := hq
      clear hC hE hK hx hb hI hR hR2 nx hP hD hS hl hX
      exfalso
      omega
    · obtain ⟨hd9, hv_, hw_⟩ := hq
      clear hC hE hK hx hb hI hR hR2 nx hP hD hS hl hX
      exfalso
      omega
    · obtain ⟨hd9, hv_, hw_⟩ := hq
      rw [hw_] at hP hD
      rw [hv_]
      clear hv_ hw_
      dsimp only [Option.toList, List.cons_append, List.nil_append]
      have hct := (hI.2.2.2.1.2 ch hc9.1.1.1 hc9.1.1.2).2
      have htk := TK.bd (CAN2 G ch x9 y9 i fr many) (n 2).toNat
      rw [show TK (CANB G ch x9 y9 i fr many) (n 2).toNat = TK (CAN2 G ch x9 y9 i fr many) (n 2).toNat from (TK.congr (n 2).toNat (fun u a9 b9 => CAN2_iff hc9.2.1 (by omega) (hct u a9 (by omega)).1)).symm]
      refine lv_istore (lv' := [(6, .int (iv (TK (CAN2 G ch x9 y9 i fr many) (n 2).toNat))), (5, .int (iv 0)), (4, .int (iv (7 * (k : Int)))), (0, .ref b), (1, .ref x), (2, .ref m0), (3, .ref o)]) (pc := 1363) hx hb dL_law_1363 hl (by decide) rfl (fun ls hl => ?_)
      refine lv_aload_n (pc := 1365) hx hb dL_law_1365 rfl (lv_at hl 5 rfl) ?_
      refine c_callV (pc := 1366) (y := yX5_thrown) (As := []) (rest := []) hC hE hP hD hS hl.1 (c_m_thrown l ε m0 ad (va_up n 5 0) G ([(o, eJ ε 1 (va_up g 0 (TK (CAN2 G ch x9 y9 i fr many) (n 2).toNat)))] ++ va_pl L2 f2)) m_3_8 m_3_9 m_3_10 m_0_5 m_3_11 wM_o rfl hd_yX5_thrown rfl ⟨⟨by decide, by decide⟩, (by show 40 + 20 * k + 6 + 0 + 0 ≤ 601024; omega), (by show 5000 + 3400 * k + 36 + 0 + 0 ≤ 7293034; omega)⟩ (Nat.le_of_ble_eq_true rfl) rfl dL_law_1366 kxN (fun v9 w9 H locs hq hP hD hS => ?_)
      rw [hq.2] at hP hD
      rw [hq.1]
      dsimp only [Option.toList, List.cons_append, List.nil_append]
      rw [show (va_up n 5 0) 5 = 0 from rfl]
      refine lv_iload (pc := 1369) hx hb dL_law_1369 (lv_at hl 1 rfl) ?_
      refine r_icmp_eq (pc := 1371) (a := 0) (b := 0) hx hb dL_law_1371 (tgt := 1376) (by decide) ⟨by omega, by omega⟩ ⟨by omega, by omega⟩ (fun c_1371 => ?_) (fun c_1371 => ?_)
      · have c_1371_ := c_1371
        refine lv_iload (pc := 1376) hx hb dL_law_1376 (lv_at hl 1 rfl) ?_
        refine r_if_ne (pc := 1378) (a := 0) hx hb dL_law_1378 (tgt := 1393) (by decide) ⟨by omega, by omega⟩ (fun c_1378 => ?_) (fun c_1378 => ?_)
        · exact absurd c_1378 (by decide)
        · have c_1378_ := c_1378
          refine lv_aload_n (pc := 1381) hx hb dL_law_1381 rfl (lv_at hl 6 rfl) ?_
          refine lv_iconst (pc := 1382) (v := iv 0) hx hb dL_law_1382 rfl ?_
          refine r_jald (pc := 1383) (z := 0) hC hK hP wM_out ⟨by decide, by decide, by decide⟩ dL_law_1383 ?_
          rw [show (va_up g 0 (TK (CAN2 G ch x9 y9 i fr many) (n 2).toNat)) (Int.toNat 0) = TK (CAN2 G ch x9 y9 i fr many) (n 2).toNat from va_up_self _ _ _]
          refine lv_iload (pc := 1384) hx hb dL_law_1384 (lv_at hl 0 rfl) ?_
          refine lv_i2l (pc := 1386) (v := jv (TK (CAN2 G ch x9 y9 i fr many) (n 2).toNat)) hx hb dL_law_1386 (iv_long _ ⟨by omega, by omega⟩) ?_
          refine W.lcmp (pc := 1387) (x := jv (TK (CAN2 G ch x9 y9 i fr many) (n 2).toNat)) (y := jv (TK (CAN2 G ch x9 y9 i fr many) (n 2).toNat)) hx hb dL_law_1387 ?_
          rw [lg_cmp_jv ⟨by omega, by omega⟩ ⟨by omega, by omega⟩]
          have hcm_1387 := cmpI_self (TK (CAN2 G ch x9 y9 i fr many) (n 2).toNat)
          refine r_if_eq (pc := 1388) (a := cmpI (TK (CAN2 G ch x9 y9 i fr many) (n 2).toNat) (TK (CAN2 G ch x9 y9 i fr many) (n 2).toNat)) hx hb dL_law_1388 (tgt := 1393) (by decide) ⟨by omega, by omega⟩ (fun c_1388 => ?_) (fun c_1388 => ?_)
          · have c_1388_ := c_1388
            refine lv_goto (pc := 1393) (tgt := 1396) hx hb dL_law_1393 (by decide) ?_
            refine W.widen (k := 40 + 20 * (k + 1)) (n := 5000 + 3400 * (k + 1)) (by show 40 + 20 * k + 6 + 0 + 0 ≤ _; omega) (by show 5000 + 3400 * k + 36 + 0 + 0 ≤ _; omega) ?_
            exact nx (va_up n 5 0) G (va_up g 0 (TK (CAN2 G ch x9 y9 i fr many) (n 2).toNat)) L2 f2 ρ2 _ _ _ ⟨INV.n5 hI, (show n 3 ≤ ((k + 1 : Nat) : Int) by omega), RX.num hR2 rfl rfl rfl rfl rfl⟩ hP hD hS (lv_sub hl [2, 3, 4, 5, 6] rfl)
          · have c_1388_ := c_1388
            exact absurd (cmpI_self _) c_1388
      · exact absurd c_1371 (by decide)
  · obtain ⟨hc9, hv_, L2, f2, ρ2, hw_, hR2⟩ := hq
    rw [hw_, List.append_assoc] at hP hD
    rw [hv_]
    clear hv_ hw_
    dsimp only [Option.toList, List.cons_append, List.nil_append]
    refine lv_istore (lv' := [(5, .int (iv 1)), (4, .int (iv (7 * (k : Int)))), (0, .ref b), (1, .ref x), (2, .ref m0), (3, .ref o)]) (pc := 1320) hx hb dL_law_1320 hl (by decide) rfl (fun ls hl => ?_)
    refine lv_aload_n (pc := 1322) hx hb dL_law_1322 rfl (lv_at hl 4 rfl) ?_
    refine lv_aload_n (pc := 1323) hx hb dL_law_1323 rfl (lv_at hl 2 rfl) ?_
    refine lv_iload (pc := 1324) hx hb dL_law_1324 (lv_at hl 1 rfl) ?_
    refine lv_iconst (pc := 1326) (v := iv 1) hx hb dL_law_1326 rfl ?_
    refine r_iadd (pc := 1327) (a := 7 * (k : Int)) (b := 1) hx hb dL_law_1327 ?_
    refine r_sld (pc := 1328) (z := (7 * (k : Int)) + 1) (v := ch) hC hX hbl hbA hS ⟨by omega, by omega, by omega⟩ hz_ch dL_law_1328 ?_
    refine lv_aload_n (pc := 1329) hx hb dL_law_1329 rfl (lv_at hl 2 rfl) ?_
    refine lv_iload (pc := 1330) hx hb dL_law_1330 (lv_at hl 1 rfl) ?_
    refine lv_iconst (pc := 1332) (v := iv 2) hx hb dL_law_1332 rfl ?_
    refine r_iadd (pc := 1333) (a := 7 * (k : Int)) (b := 2) hx hb dL_law_1333 ?_
    refine r_sld (pc := 1334) (z := (7 * (k : Int)) + 2) (v := x9) hC hX hbl hbA hS ⟨by omega, by omega, by omega⟩ hz_x9 dL_law_1334 ?_
    refine lv_aload_n (pc := 1335) hx hb dL_law_1335 rfl (lv_at hl 2 rfl) ?_
    refine lv_iload (pc := 1336) hx hb dL_law_1336 (lv_at hl 1 rfl) ?_
    refine lv_iconst (pc := 1338) (v := iv 3) hx hb dL_law_1338 rfl ?_
    refine r_iadd (pc := 1339) (a := 7 * (k : Int)) (b := 3) hx hb dL_law_1339 ?_
    refine r_sld (pc := 1340) (z := (7 * (k : Int)) + 3) (v := y9) hC hX hbl hbA hS ⟨by omega, by omega, by omega⟩ hz_y9 dL_law_1340 ?_
    refine lv_aload_n (pc := 1341) hx hb dL_law_1341 rfl (lv_at hl 2 rfl) ?_
    refine lv_iload (pc := 1342) hx hb dL_law_1342 (lv_at hl 1 rfl) ?_
    refine lv_iconst (pc := 1344) (v := iv 4) hx hb dL_law_1344 rfl ?_
    refine r_iadd (pc := 1345) (a := 7 * (k : Int)) (b := 4) hx hb dL_law_1345 ?_
    refine r_sld (pc := 1346) (z := (7 * (k : Int)) + 4) (v := i) hC hX hbl hbA hS ⟨by omega, by omega, by omega⟩ hz_i dL_law_1346 ?_
    refine lv_aload_n (pc := 1347) hx hb dL_law_1347 rfl (lv_at hl 2 rfl) ?_
    refine lv_iload (pc := 1348) hx hb dL_law_1348 (lv_at hl 1 rfl) ?_
    refine lv_iconst (pc := 1350) (v := iv 5) hx hb dL_law_1350 rfl ?_
    refine r_iadd (pc := 1351) (a := 7 * (k : Int)) (b := 5) hx hb dL_law_1351 ?_
    refine r_sld (pc := 1352) (z := (7 * (k : Int)) + 5) (v := fr) hC hX hbl hbA hS ⟨by omega, by omega, by omega⟩ hz_fr dL_law_1352 ?_
    refine lv_aload_n (pc := 1353) hx hb dL_law_1353 rfl (lv_at hl 2 rfl) ?_
    refine lv_iload (pc := 1354) hx hb dL_law_1354 (lv_at hl 1 rfl) ?_
    refine lv_bipush (pc := 1356) (v := iv 6) hx hb dL_law_1356 (by decide) ?_
    refine r_iadd (pc := 1358) (a := 7 * (k : Int)) (b := 6) hx hb dL_law_1358 ?_
    refine r_sld (pc := 1359) (z := (7 * (k : Int)) + 6) (v := many) hC hX hbl hbA hS ⟨by omega, by omega, by omega⟩ hz_many dL_law_1359 ?_
    refine c_callV (pc := 1360) (y := yX5_taken) (As := [.int (iv ch), .int (iv x9), .int (iv y9), .int (iv i), .int (iv fr), .int (iv many)]) (rest := []) hC hE hP hD hS hl.1 (c_m_taken l ε m0 ad n G ([(o, eJ ε 1 g)] ++ va_pl L2 f2) ch x9 y9 i fr many rch rx9 ry9 ri rfr rmany hI.2.1 hI.2.2.1 hI.2.2.2.1) m_24_2 m_24_3 m_24_4 m_0_5 m_24_5 wM_o rfl hd_yX5_taken rfl ⟨⟨by decide, by decide⟩, (by show 40 + 20 * k + 6 + 0 ≤ 601024; omega), (by show 5000 + 3400 * k + 36 + 0 ≤ 7293034; omega)⟩ (Nat.le_of_ble_eq_true rfl) rfl dL_law_1360 kxN (fun v9 w9 H locs hq hP hD hS => ?_)
    rcases hq with hq | hq | hq
    · obtain ⟨hd9, hv_, hw_⟩ := hq
      rw [hw_] at hP hD
      rw [hv_]
      clear hv_ hw_
      dsimp only [Option.toList, List.cons_append, List.nil_append]
      refine lv_istore (lv' := [(6, .int (iv 0)), (5, .int (iv 1)), (4, .int (iv (7 * (k : Int)))), (0, .ref b), (1, .ref x), (2, .ref m0), (3, .ref o)]) (pc := 1363) hx hb dL_law_1363 hl (by decide) rfl (fun ls hl => ?_)
      refine lv_aload_n (pc := 1365) hx hb dL_law_1365 rfl (lv_at hl 5 rfl) ?_
      refine c_callV (pc := 1366) (y := yX5_thrown) (As := []) (rest := []) hC hE hP hD hS hl.1 (c_m_thrown l ε m0 ad (va_up n 5 1) G ([(o, eJ ε 1 g)] ++ va_pl L2 f2)) m_3_8 m_3_9 m_3_10 m_0_5 m_3_11 wM_o rfl hd_yX5_thrown rfl ⟨⟨by decide, by decide⟩, (by show 40 + 20 * k + 6 + 0 + 0 ≤ 601024; omega), (by show 5000 + 3400 * k + 36 + 0 + 0 ≤ 7293034; omega)⟩ (Nat.le_of_ble_eq_true rfl) rfl dL_law_1366 kxN (fun v9 w9 H locs hq hP hD hS => ?_)
      rw [hq.2] at hP hD
      rw [hq.1]
      dsimp only [Option.toList, List.cons_append, List.nil_append]
      rw [show (va_up n 5 1) 5 = 1 from rfl]
      refine lv_iload (pc := 1369) hx hb dL_law_1369 (lv_at hl 1 rfl) ?_
      refine r_icmp_eq (pc := 1371) (a := 1) (b := 1) hx hb dL_law_1371 (tgt := 1376) (by decide) ⟨by omega, by omega⟩ ⟨by omega, by omega⟩ (fun c_1371 => ?_) (fun c_1371 => ?_)
      · have c_1371_ := c_1371
        refine lv_iload (pc := 1376) hx hb dL_law_1376 (lv_at hl 1 rfl) ?_
        refine r_if_ne (pc := 1378) (a := 1) hx hb dL_law_1378 (tgt := 1393) (by decide) ⟨by omega, by omega⟩ (fun c_1378 => ?_) (fun c_1378 => ?_)
        · have c_1378_ := c_1378
          refine lv_goto (pc := 1393) (tgt := 1396) hx hb dL_law_1393 (by decide) ?_
          refine W.widen (k := 40 + 20 * (k + 1)) (n := 5000 + 3400 * (k + 1)) (by show 40 + 20 * k + 6 + 0 + 0 ≤ _; omega) (by show 5000 + 3400 * k + 36 + 0 + 0 ≤ _; omega) ?_
          exact nx (va_up n 5 1) G g L2 f2 ρ2 _ _ _ ⟨INV.n5 hI, (show n 3 ≤ ((k + 1 : Nat) : Int) by omega), RX.num hR2 rfl rfl rfl rfl rfl⟩ hP hD hS (lv_sub hl [2, 3, 4, 5, 6] rfl)
        · exact absurd c_1378 (by decide)
      · exact absurd c_1371 (by decide)
    · obtain ⟨hd9, hv_, hw_⟩ := hq
      clear hC hE hK hx hb hI hR hR2 nx hP hD hS hl hX
      exfalso
      omega
    · obtain ⟨hd9, hv_, hw_⟩ := hq
      clear hC hE hK hx hb hI hR hR2 nx hP hD hS hl hX
      exfalso
      omega
  · obtain ⟨hc9, hv_, L2, f2, ρ2, hw_, hR2⟩ := hq
    rw [hw_, List.append_assoc] at hP hD
    rw [hv_]
    clear hv_ hw_
    dsimp only [Option.toList, List.cons_append, List.nil_append]
    refine lv_istore (lv' := [(5, .int (iv 2)), (4, .int (iv (7 * (k : Int)))), (0, .ref b), (1, .ref x), (2, .ref m0), (3, .ref o)]) (pc := 1320) hx hb dL_law_1320 hl (by decide) rfl (fun ls hl => ?_)
    refine lv_aload_n (pc := 1322) hx hb dL_law_1322 rfl (lv_at hl 4 rfl) ?_
    refine lv_aload_n (pc := 1323) hx hb dL_law_1323 rfl (lv_at hl 2 rfl) ?_
    refine lv_iload (pc := 1324) hx hb dL_law_1324 (lv_at hl 1 rfl) ?_
    refine lv_iconst (pc := 1326) (v := iv 1) hx hb dL_law_1326 rfl ?_
    refine r_iadd (pc := 1327) (a := 7 * (k : Int)) (b := 1) hx hb dL_law_1327 ?_
    refine r_sld (pc := 1328) (z := (7 * (k : Int)) + 1) (v := ch) hC hX hbl hbA hS ⟨by omega, by omega, by omega⟩ hz_ch dL_law_1328 ?_
    refine lv_aload_n (pc := 1329) hx hb dL_law_1329 rfl (lv_at hl 2 rfl) ?_
    refine lv_iload (pc := 1330) hx hb dL_law_1330 (lv_at hl 1 rfl) ?_
    refine lv_iconst (pc := 1332) (v := iv 2) hx hb dL_law_1332 rfl ?_
    refine r_iadd (pc := 1333) (a := 7 * (k : Int)) (b := 2) hx hb dL_law_1333 ?_
    refine r_sld (pc := 1334) (z := (7 * (k : Int)) + 2) (v := x9) hC hX hbl hbA hS ⟨by omega, by omega, by omega⟩ hz_x9 dL_law_1334 ?_
    refine lv_aload_n (pc := 1335) hx hb dL_law_1335 rfl (lv_at hl 2 rfl) ?_
    refine lv_iload (pc := 1336) hx hb dL_law_1336 (lv_at hl 1 rfl) ?_
    refine lv_iconst (pc := 1338) (v := iv 3) hx hb dL_law_1338 rfl ?_
    refine r_iadd (pc := 1339) (a := 7 * (k : Int)) (b := 3) hx hb dL_law_1339 ?_
    refine r_sld (pc := 1340) (z := (7 * (k : Int)) + 3) (v := y9) hC hX hbl hbA hS ⟨by omega, by omega, by omega⟩ hz_y9 dL_law_1340 ?_
    refine lv_aload_n (pc := 1341) hx hb dL_law_1341 rfl (lv_at hl 2 rfl) ?_
    refine lv_iload (pc := 1342) hx hb dL_law_1342 (lv_at hl 1 rfl) ?_
    refine lv_iconst (pc := 1344) (v := iv 4) hx hb dL_law_1344 rfl ?_
    refine r_iadd (pc := 1345) (a := 7 * (k : Int)) (b := 4) hx hb dL_law_1345 ?_
    refine r_sld (pc := 1346) (z := (7 * (k : Int)) + 4) (v := i) hC hX hbl hbA hS ⟨by omega, by omega, by omega⟩ hz_i dL_law_1346 ?_
    refine lv_aload_n (pc := 1347) hx hb dL_law_1347 rfl (lv_at hl 2 rfl) ?_
    refine lv_iload (pc := 1348) hx hb dL_law_1348 (lv_at hl 1 rfl) ?_
    refine lv_iconst (pc := 1350) (v := iv 5) hx hb dL_law_1350 rfl ?_
    refine r_iadd (pc := 1351) (a := 7 * (k : Int)) (b := 5) hx hb dL_law_1351 ?_
    refine r_sld (pc := 1352) (z := (7 * (k : Int)) + 5) (v := fr) hC hX hbl hbA hS ⟨by omega, by omega, by omega⟩ hz_fr dL_law_1352 ?_
    refine lv_aload_n (pc := 1353) hx hb dL_law_1353 rfl (lv_at hl 2 rfl) ?_
    refine lv_iload (pc := 1354) hx hb dL_law_1354 (lv_at hl 1 rfl) ?_
    refine lv_bipush (pc := 1356) (v := iv 6) hx hb dL_law_1356 (by decide) ?_
    refine r_iadd (pc := 1358) (a := 7 * (k : Int)) (b := 6) hx hb dL_law_1358 ?_
    refine r_sld (pc := 1359) (z := (7 * (k : Int)) + 6) (v := many) hC hX hbl hbA hS ⟨by omega, by omega, by omega⟩ hz_many dL_law_1359 ?_
    refine c_callV (pc := 1360) (y := yX5_taken) (As := [.int (iv ch), .int (iv x9), .int (iv y9), .int (iv i), .int (iv fr), .int (iv many)]) (rest := []) hC hE hP hD hS hl.1 (c_m_taken l ε m0 ad n G ([(o, eJ ε 1 g)] ++ va_pl L2 f2) ch x9 y9 i fr many rch rx9 ry9 ri rfr rmany hI.2.1 hI.2.2.1 hI.2.2.2.1) m_24_2 m_24_3 m_24_4 m_0_5 m_24_5 wM_o rfl hd_yX5_taken rfl ⟨⟨by decide, by decide⟩, (by show 40 + 20 * k + 6 + 0 ≤ 601024; omega), (by show 5000 + 3400 * k + 36 + 0 ≤ 7293034; omega)⟩ (Nat.le_of_ble_eq_true rfl) rfl dL_law_1360 kxN (fun v9 w9 H locs hq hP hD hS => ?_)
    rcases hq with hq | hq | hq
    · obtain ⟨hd9, hv_, hw_⟩ := hq
      clear hC hE hK hx hb hI hR hR2 nx hP hD hS hl hX
      exfalso
      omega
    · obtain ⟨hd9, hv_, hw_⟩ := hq
      rw [hw_] at hP hD
      rw [hv_]
      clear hv_ hw_
      dsimp only [Option.toList, List.cons_append, List.nil_append]
      refine lv_istore (lv' := [(6, .int (iv 0)), (5, .int (iv 2)), (4, .int (iv (7 * (k : Int)))), (0, .ref b), (1, .ref x), (2, .ref m0), (3, .ref o)]) (pc := 1363) hx hb dL_law_1363 hl (by decide) rfl (fun ls hl => ?_)
      refine lv_aload_n (pc := 1365) hx hb dL_law_1365 rfl (lv_at hl 5 rfl) ?_
      refine c_callV (pc := 1366) (y := yX5_thrown) (As := []) (rest := []) hC hE hP hD hS hl.1 (c_m_thrown l ε m0 ad (va_up n 5 2) G ([(o, eJ ε 1 g)] ++ va_pl L2 f2)) m_3_8 m_3_9 m_3_10 m_0_5 m_3_11 wM_o rfl hd_yX5_thrown rfl ⟨⟨by decide, by decide⟩, (by show 40 + 20 * k + 6 + 0 + 0 ≤ 601024; omega), (by show 5000 + 3400 * k + 36 + 0 + 0 ≤ 7293034; omega)⟩ (Nat.le_of_ble_eq_true rfl) rfl dL_law_1366 kxN (fun v9 w9 H locs hq hP hD hS => ?_)
      rw [hq.2] at hP hD
      rw [hq.1]
      dsimp only [Option.toList, List.cons_append, List.nil_append]
      rw [show (va_up n 5 2) 5 = 2 from rfl]
      refine lv_iload (pc := 1369) hx hb dL_law_1369 (lv_at hl 1 rfl) ?_
      refine r_icmp_eq (pc := 1371) (a := 2) (b := 2) hx hb dL_law_1371 (tgt := 1376) (by decide) ⟨by omega, by omega⟩ ⟨by omega, by omega⟩ (fun c_1371 => ?_) (fun c_1371 => ?_)
      · have c_1371_ := c_1371
        refine lv_iload (pc := 1376) hx hb dL_law_1376 (lv_at hl 1 rfl) ?_
        refine r_if_ne (pc := 1378) (a := 2) hx hb dL_law_1378 (tgt := 1393) (by decide) ⟨by omega, by omega⟩ (fun c_1378 => ?_) (fun c_1378 => ?_)
        · have c_1378_ := c_1378
          refine lv_goto (pc := 1393) (tgt := 1396) hx hb dL_law_1393 (by decide) ?_
          refine W.widen (k := 40 + 20 * (k + 1)) (n := 5000 + 3400 * (k + 1)) (by show 40 + 20 * k + 6 + 0 + 0 ≤ _; omega) (by show 5000 + 3400 * k + 36 + 0 + 0 ≤ _; omega) ?_
          exact nx (va_up n 5 2) G g L2 f2 ρ2 _ _ _ ⟨INV.n5 hI, (show n 3 ≤ ((k + 1 : Nat) : Int) by omega), RX.num hR2 rfl rfl rfl rfl rfl⟩ hP hD hS (lv_sub hl [2, 3, 4, 5, 6] rfl)
        · exact absurd c_1378 (by decide)
      · exact absurd c_1371 (by decide)
    · obtain ⟨hd9, hv_, hw_⟩ := hq
      clear hC hE hK hx hb hI hR hR2 nx hP hD hS hl hX
      exfalso
      omega
