/-! the law's own loop, its walk -/
set_option maxRecDepth 100000 in
set_option maxHeartbeats 8000000 in
theorem law_step (l : Launch) (ε : EV) (hst : l.stackTraces = false) {b L : Nat} {xs : Nat → Int32} {x : Nat} (k : Int) (hk : 0 ≤ k ∧ k < 12) (C S : Nat) (hCC : C + 1000 ≤ 670140) (hSS : S + 100000 ≤ 7091351)  (hnx : LSG l ε b L xs 30 (C + 1000) (S + 100000) [(0, .ref b), (1, .ref x), (2, .int (iv (k + 1)))] (fun z => ∃ (n : Nat → Int) (G : Nat → Nat → Int), HS ε x n G z ∧ JK (k + 1) n G)) : LSG l ε b L xs 30 C S [(0, .ref b), (1, .ref x), (2, .int (iv k))] (fun z => ∃ (n : Nat → Int) (G : Nat → Nat → Int), HS ε x n G z ∧ JK k n G) := by
  intro p9 e9 s9 m9 a9 bl9 me9 c9 Q9 nm9 tb9 hC hE hL H locs ls w9 hH hP hD hS hl
  have hx := hC.1
  have hb := hC.2.1
  have hK := hE.K
  obtain ⟨n, G, hH, hJ⟩ := hH
  obtain ⟨fo, hob⟩ := hH.ob
  have hIk := hH.inv
  have h0k := hk.1
  obtain ⟨⟨b0, b1⟩, ⟨b2, b3⟩, b4⟩ := id hJ.1
  have hL9 := hL.2.2.2.2.1
  refine lv_iload_n (pc := 30) hx hb dL_law_30 rfl (lv_at hl 2 rfl) ?_
  refine lv_bipush (pc := 31) (v := iv 12) hx hb dL_law_31 (by decide) ?_
  refine r_icmp_ge (pc := 33) (a := k) (b := 12) hx hb dL_law_33 (tgt := 291) (by decide) ⟨by omega, by omega⟩ ⟨by omega, by omega⟩ (fun c_33 => ?_) (fun c_33 => ?_)
  · have c_33_ := c_33
    omega
  · have c_33_ := c_33
    refine lv_aload_n (pc := 36) hx hb dL_law_36 rfl (lv_at hl 0 rfl) ?_
    refine r_slen (pc := 37) hC hL.2.1 hL.2.2.1 hL.2.2.2.1 hS dL_law_37 ?_
    have lp_57 : ∀ (xv : Int) (hxv : 0 ≤ xv ∧ xv < 16777216), ∀ (H : Heap) (locs : List Loc) (ls : Array Slot), WP ε (w9) H → WD ε (w9) → WS ε s9.heap H locs → lv_has ls 4 [(0, .ref b), (1, .ref x), (2, .int (iv k))] → W p9 l e9 rm_A_law s9 m9 a9 bl9 me9 c9 H locs C S Q9 (F0 m9 57 ls [.int (iv xv)]) := by
      intro xv hxv H locs ls hP hD hS hl
      refine lv_istore_n (lv' := [(3, .int (iv xv)), (0, .ref b), (1, .ref x), (2, .int (iv k))]) (pc := 57) hx hb dL_law_57 rfl hl (by decide) rfl (fun ls hl => ?_)
      refine lv_aload_n (pc := 58) hx hb dL_law_58 rfl (lv_at hl 2 rfl) ?_
      refine lv_iconst (pc := 59) (v := iv 1) hx hb dL_law_59 rfl ?_
      refine lv_iload_n (pc := 60) hx hb dL_law_60 rfl (lv_at hl 0 rfl) ?_
      refine lv_bipush (pc := 61) (v := iv 9) hx hb dL_law_61 (by decide) ?_
      refine r_irem (pc := 63) (a := xv) (b := 9) hx hb dL_law_63 ⟨⟨by omega, by omega⟩, by omega, by omega⟩ ?_
      have hm_63 := Int.emod_nonneg xv (show 9 ≠ 0 by omega)
      have hn_63 := Int.emod_lt_of_pos xv (show 0 < 9 by omega)
      refine r_iadd (pc := 64) (a := 1) (b := xv % 9) hx hb dL_law_64 ?_
      refine c_callV (pc := 65) (y := yX4_phase) (As := [.int (iv (1 + (xv % 9)))]) (rest := []) hC hE hP hD hS hl.1 (K_phaseL l ε hst hH 0 1 (1 + (xv % 9)) hJ.1.1.1 rfl (by decide) ⟨by omega, by omega⟩) m_4_24 m_5_0 m_5_1 m_0_2 m_5_2 hob rfl hd_yX4_phase rfl ⟨⟨by decide, by decide⟩, (by show C + 2 ≤ 670140; omega), (by show S + 12 ≤ 7091351; omega)⟩ (Nat.le_of_ble_eq_true rfl) rfl dL_law_65 kxN (fun v w_1 H locs hq hP hD hS => ?_)
      refine W.widen (k := (C + 2)) (n := (S + 12)) (by show C + 2 ≤ (C + 2); omega) (by show S + 12 ≤ (S + 12); omega) ?_
      have hH := hq.2
      obtain ⟨fo, hob⟩ := hH.ob
      rw [hq.1]
      dsimp only [Option.toList, List.cons_append, List.nil_append]
      refine lv_iconst (pc := 68) (v := iv 1) hx hb dL_law_68 rfl ?_
      refine r_icmp_ne (pc := 69) (a := 1) (b := 1) hx hb dL_law_69 (tgt := 221) (by decide) ⟨by omega, by omega⟩ ⟨by omega, by omega⟩ (fun c_69 => ?_) (fun c_69 => ?_)
      · exact absurd c_69 (by decide)
      · have c_69_ := c_69
        refine lv_aload_n (pc := 72) hx hb dL_law_72 rfl (lv_at hl 2 rfl) ?_
        refine lv_iconst (pc := 73) (v := iv 1) hx hb dL_law_73 rfl ?_
        refine lv_iload_n (pc := 74) hx hb dL_law_74 rfl (lv_at hl 0 rfl) ?_
        refine lv_bipush (pc := 75) (v := iv 9) hx hb dL_law_75 (by decide) ?_
        refine r_idiv (pc := 77) (a := xv) (b := 9) hx hb dL_law_77 ⟨⟨by omega, by omega⟩, by omega, by omega⟩ ?_
        refine lv_bipush (pc := 78) (v := iv 9) hx hb dL_law_78 (by decide) ?_
        refine r_irem (pc := 80) (a := xv / 9) (b := 9) hx hb dL_law_80 ⟨⟨by omega, by omega⟩, by omega, by omega⟩ ?_
        have hm_80 := Int.emod_nonneg (xv / 9) (show 9 ≠ 0 by omega)
        have hn_80 := Int.emod_lt_of_pos (xv / 9) (show 0 < 9 by omega)
        refine r_iadd (pc := 81) (a := 1) (b := (xv / 9) % 9) hx hb dL_law_81 ?_
        refine c_callV (pc := 82) (y := yX4_phase) (As := [.int (iv (1 + ((xv / 9) % 9)))]) (rest := []) hC hE hP hD hS hl.1 (K_phaseL l ε hst hH 1 2 (1 + ((xv / 9) % 9)) rfl rfl (by decide) ⟨by omega, by omega⟩) m_4_24 m_5_0 m_5_1 m_0_2 m_5_2 hob rfl hd_yX4_phase rfl ⟨⟨by decide, by decide⟩, (by show (C + 2) + 2 ≤ 670140; omega), (by show (S + 12) + 12 ≤ 7091351; omega)⟩ (Nat.le_of_ble_eq_true rfl) rfl dL_law_82 kxN (fun v w_2 H locs hq hP hD hS => ?_)
        refine W.widen (k := (C + 4)) (n := (S + 24)) (by show (C + 2) + 2 ≤ (C + 4); omega) (by show (S + 12) + 12 ≤ (S + 24); omega) ?_
        have hH := hq.2
        obtain ⟨fo, hob⟩ := hH.ob
        rw [hq.1]
        dsimp only [Option.toList, List.cons_append, List.nil_append]
        refine lv_iconst (pc := 85) (v := iv 2) hx hb dL_law_85 rfl ?_
        refine r_icmp_ne (pc := 86) (a := 2) (b := 2) hx hb dL_law_86 (tgt := 221) (by decide) ⟨by omega, by omega⟩ ⟨by omega, by omega⟩ (fun c_86 => ?_) (fun c_86 => ?_)
        · exact absurd c_86 (by decide)
        · have c_86_ := c_86
          refine lv_aload_n (pc := 89) hx hb dL_law_89 rfl (lv_at hl 2 rfl) ?_
          refine c_callV (pc := 90) (y := yX4_pattern) (As := []) (rest := []) hC hE hP hD hS hl.1 (K_pattern l ε hst hH (Or.inl rfl) (by show n 1 < 20; omega)) m_5_10 m_5_11 m_5_12 m_0_2 m_5_13 hob rfl hd_yX4_pattern rfl ⟨⟨by decide, by decide⟩, (by show (C + 4) + 5 ≤ 670140; omega), (by show (S + 24) + 3100 ≤ 7091351; omega)⟩ (Nat.le_of_ble_eq_true rfl) rfl dL_law_90 kxN (fun v w_3 H locs hq hP hD hS => ?_)
          refine W.widen (k := (C + 9)) (n := (S + 3124)) (by show (C + 4) + 5 ≤ (C + 9); omega) (by show (S + 24) + 3100 ≤ (S + 3124); omega) ?_
          rw [hq.1, show (va_up (va_up n 0 1) 0 2) 1 = k from b1]
          dsimp only [Option.toList, List.cons_append, List.nil_append]
          obtain ⟨n2, G2, hH, hJ2⟩ : ∃ (n2 : Nat → Int) (G2 : Nat → Nat → Int), HS ε x n2 G2 w_3 ∧ JP k (1 + xv % 9) (1 + xv / 9 % 9) n2 G2 := ⟨_, _, hq.2, JP.of h0k rfl b1 ⟨b2, b3⟩ b4 rfl rfl (hIk.2.2.2.2.2.1 k (by omega)) hJ.2⟩
          obtain ⟨⟨⟨d0, d1⟩, ⟨d2, d3⟩, d4⟩, -, hpf⟩ := id hJ2
          have hpe := hpf.1.2
          obtain ⟨fo, hob⟩ := hH.ob
          refine lv_iload_n (pc := 93) hx hb dL_law_93 rfl (lv_at hl 3 rfl) ?_
          refine r_icmp_ne (pc := 94) (a := k) (b := k) hx hb dL_law_94 (tgt := 221) (by decide) ⟨by omega, by omega⟩ ⟨by omega, by omega⟩ (fun c_94 => ?_) (fun c_94 => ?_)
          · have c_94_ := c_94
            omega
          · have c_94_ := c_94
            refine lv_aload_n (pc := 97) hx hb dL_law_97 rfl (lv_at hl 2 rfl) ?_
            refine lv_iload_n (pc := 98) hx hb dL_law_98 rfl (lv_at hl 3 rfl) ?_
            refine c_callV (pc := 99) (y := yX4_period) (As := [.int (iv k)]) (rest := []) hC hE hP hD hS hl.1 (K_period l ε hst hH k ⟨h0k, by omega⟩) m_8_15 m_8_16 m_8_17 m_0_2 m_8_18 hob rfl hd_yX4_period rfl ⟨⟨by decide, by decide⟩, (by show (C + 9) + 1 ≤ 670140; omega), (by show (S + 3124) + 6 ≤ 7091351; omega)⟩ (Nat.le_of_ble_eq_true rfl) rfl dL_law_99 kxN (fun v w_4 H locs hq hP hD hS => ?_)
            refine W.widen (k := (C + 10)) (n := (S + 3130)) (by show (C + 9) + 1 ≤ (C + 10); omega) (by show (S + 3124) + 6 ≤ (S + 3130); omega) ?_
            rw [hq.2] at hP hD
            rw [hq.1]
            dsimp only [Option.toList, List.cons_append, List.nil_append]
            refine lv_iconst (pc := 102) (v := iv 2) hx hb dL_law_102 rfl ?_
            refine lv_iload_n (pc := 103) hx hb dL_law_103 rfl (lv_at hl 0 rfl) ?_
            refine lv_bipush (pc := 104) (v := iv 9) hx hb dL_law_104 (by decide) ?_
            refine r_irem (pc := 106) (a := xv) (b := 9) hx hb dL_law_106 ⟨⟨by omega, by omega⟩, by omega, by omega⟩ ?_
            have hm_106 := Int.emod_nonneg xv (show 9 ≠ 0 by omega)
            have hn_106 := Int.emod_lt_of_pos xv (show 0 < 9 by omega)
            refine r_iadd (pc := 107) (a := 2) (b := xv % 9) hx hb dL_law_107 ?_
            refine lv_iload_n (pc := 108) hx hb dL_law_108 rfl (lv_at hl 0 rfl) ?_
            refine lv_bipush (pc := 109) (v := iv 9) hx hb dL_law_109 (by decide) ?_
            refine r_idiv (pc := 111) (a := xv) (b := 9) hx hb dL_law_111 ⟨⟨by omega, by omega⟩, by omega, by omega⟩ ?_
            refine lv_bipush (pc := 112) (v := iv 9) hx hb dL_law_112 (by decide) ?_
            refine r_irem (pc := 114) (a := xv / 9) (b := 9) hx hb dL_law_114 ⟨⟨by omega, by omega⟩, by omega, by omega⟩ ?_
            have hm_114 := Int.emod_nonneg (xv / 9) (show 9 ≠ 0 by omega)
            have hn_114 := Int.emod_lt_of_pos (xv / 9) (show 0 < 9 by omega)
            refine r_iadd (pc := 115) (a := 2 + (xv % 9)) (b := (xv / 9) % 9) hx hb dL_law_115 ?_
            refine r_icmp_ne (pc := 116) (a := G2 3 k.toNat) (b := (2 + (xv % 9)) + ((xv / 9) % 9)) hx hb dL_law_116 (tgt := 221) (by decide) ⟨by omega, by omega⟩ ⟨by omega, by omega⟩ (fun c_116 => ?_) (fun c_116 => ?_)
            · have c_116_ := c_116
              omega
            · have c_116_ := c_116
              refine lv_aload_n (pc := 119) hx hb dL_law_119 rfl (lv_at hl 2 rfl) ?_
              refine lv_iload_n (pc := 120) hx hb dL_law_120 rfl (lv_at hl 0 rfl) ?_
              refine lv_bipush (pc := 121) (v := iv 32) hx hb dL_law_121 (by decide) ?_
              refine r_irem (pc := 123) (a := xv) (b := 32) hx hb dL_law_123 ⟨⟨by omega, by omega⟩, by omega, by omega⟩ ?_
              have hm_123 := Int.emod_nonneg xv (show 32 ≠ 0 by omega)
              have hn_123 := Int.emod_lt_of_pos xv (show 0 < 32 by omega)
              refine lv_iload_n (pc := 124) hx hb dL_law_124 rfl (lv_at hl 0 rfl) ?_
              refine lv_bipush (pc := 125) (v := iv 32) hx hb dL_law_125 (by decide) ?_
              refine r_idiv (pc := 127) (a := xv) (b := 32) hx hb dL_law_127 ⟨⟨by omega, by omega⟩, by omega, by omega⟩ ?_
              refine lv_bipush (pc := 128) (v := iv 32) hx hb dL_law_128 (by decide) ?_
              refine r_irem (pc := 130) (a := xv / 32) (b := 32) hx hb dL_law_130 ⟨⟨by omega, by omega⟩, by omega, by omega⟩ ?_
              have hm_130 := Int.emod_nonneg (xv / 32) (show 32 ≠ 0 by omega)
              have hn_130 := Int.emod_lt_of_pos (xv / 32) (show 0 < 32 by omega)
              refine lv_iload_n (pc := 131) hx hb dL_law_131 rfl (lv_at hl 3 rfl) ?_
              refine lv_iconst (pc := 132) (v := iv 1) hx hb dL_law_132 rfl ?_
              refine lv_iload_n (pc := 133) hx hb dL_law_133 rfl (lv_at hl 0 rfl) ?_
              refine lv_bipush (pc := 134) (v := iv 40) hx hb dL_law_134 (by decide) ?_
              refine r_irem (pc := 136) (a := xv) (b := 40) hx hb dL_law_136 ⟨⟨by omega, by omega⟩, by omega, by omega⟩ ?_
              have hm_136 := Int.emod_nonneg xv (show 40 ≠ 0 by omega)
              have hn_136 := Int.emod_lt_of_pos xv (show 0 < 40 by omega)
              refine r_iadd (pc := 137) (a := 1) (b := xv % 40) hx hb dL_law_137 ?_
              refine lv_iconst (pc := 138) (v := iv 1) hx hb dL_law_138 rfl ?_
              refine lv_iload_n (pc := 139) hx hb dL_law_139 rfl (lv_at hl 0 rfl) ?_
              refine lv_sipush (pc := 140) (v := iv 255) hx hb dL_law_140 (by decide) ?_
              refine r_irem (pc := 143) (a := xv) (b := 255) hx hb dL_law_143 ⟨⟨by omega, by omega⟩, by omega, by omega⟩ ?_
              have hm_143 := Int.emod_nonneg xv (show 255 ≠ 0 by omega)
              have hn_143 := Int.emod_lt_of_pos xv (show 0 < 255 by omega)
              refine r_iadd (pc := 144) (a := 1) (b := xv % 255) hx hb dL_law_144 ?_
              refine c_callV (pc := 145) (y := yX4_lamp) (As := [.int (iv (xv % 32)), .int (iv ((xv / 32) % 32)), .int (iv k), .int (iv (1 + (xv % 40))), .int (iv (1 + (xv % 255)))]) (rest := []) hC hE hP hD hS hl.1 (K_lamp l ε hst hH (xv % 32) (xv / 32 % 32) k (1 + xv % 40) (1 + xv % 255) ⟨h0k, by omega⟩ ⟨⟨by omega, by omega⟩, by omega, by omega⟩ ⟨by omega, by omega⟩ ⟨by omega, by omega⟩ (by omega) (by omega)) m_14_18 m_14_19 m_14_20 m_0_2 m_14_21 hob rfl hd_yX4_lamp rfl ⟨⟨by decide, by decide⟩, (by show (C + 10) + 14 ≤ 670140; omega), (by show (S + 3130) + 3300 ≤ 7091351; omega)⟩ (Nat.le_of_ble_eq_true rfl) rfl dL_law_145 kxN (fun v w_5 H locs hq hP hD hS => ?_)
              refine W.widen (k := (C + 24)) (n := (S + 6430)) (by show (C + 10) + 14 ≤ (C + 24); omega) (by show (S + 3130) + 3300 ≤ (S + 6430); omega) ?_
              rw [hq.1, d2]
              dsimp only [Option.toList, List.cons_append, List.nil_append]
              obtain ⟨n3, G3, hH, hJ3⟩ : ∃ (n3 : Nat → Int) (G3 : Nat → Nat → Int), HS ε x n3 G3 w_5 ∧ JL k (1 + xv % 9) (1 + xv / 9 % 9) (xv % 32) (xv / 32 % 32) n3 G3 := ⟨_, _, hq.2, JL.of h0k hJ2 hH.inv (by omega)⟩
              obtain ⟨⟨⟨f0, f1⟩, ⟨f2, f3⟩, f4⟩, -, hpf3, hlf3⟩ := id hJ3
              obtain ⟨fo, hob⟩ := hH.ob
              refine lv_iload_n (pc := 148) hx hb dL_law_148 rfl (lv_at hl 3 rfl) ?_
              refine r_icmp_ne (pc := 149) (a := k) (b := k) hx hb dL_law_149 (tgt := 221) (by decide) ⟨by omega, by omega⟩ ⟨by omega, by omega⟩ (fun c_149 => ?_) (fun c_149 => ?_)
              · have c_149_ := c_149
                omega
              · have c_149_ := c_149
                refine lv_aload_n (pc := 152) hx hb dL_law_152 rfl (lv_at hl 2 rfl) ?_
                refine lv_iload_n (pc := 153) hx hb dL_law_153 rfl (lv_at hl 3 rfl) ?_
                refine lv_iload_n (pc := 154) hx hb dL_law_154 rfl (lv_at hl 0 rfl) ?_
                refine lv_bipush (pc := 155) (v := iv 32) hx hb dL_law_155 (by decide) ?_
                refine r_irem (pc := 157) (a := xv) (b := 32) hx hb dL_law_157 ⟨⟨by omega, by omega⟩, by omega, by omega⟩ ?_
                have hm_157 := Int.emod_nonneg xv (show 32 ≠ 0 by omega)
                have hn_157 := Int.emod_lt_of_pos xv (show 0 < 32 by omega)
                refine lv_iload_n (pc := 158) hx hb dL_law_158 rfl (lv_at hl 0 rfl) ?_
                refine lv_bipush (pc := 159) (v := iv 32) hx hb dL_law_159 (by decide) ?_
                refine r_idiv (pc := 161) (a := xv) (b := 32) hx hb dL_law_161 ⟨⟨by omega, by omega⟩, by omega, by omega⟩ ?_
                refine lv_bipush (pc := 162) (v := iv 32) hx hb dL_law_162 (by decide) ?_
                refine r_irem (pc := 164) (a := xv / 32) (b := 32) hx hb dL_law_164 ⟨⟨by omega, by omega⟩, by omega, by omega⟩ ?_
                have hm_164 := Int.emod_nonneg (xv / 32) (show 32 ≠ 0 by omega)
                have hn_164 := Int.emod_lt_of_pos (xv / 32) (show 0 < 32 by omega)
                refine c_callV (pc := 165) (y := yX4_isSeen) (As := [.int (iv k), .int (iv (xv % 32)), .int (iv ((xv / 32) % 32))]) (rest := []) hC hE hP hD hS hl.1 (K_isSeen l ε hst hH k (xv % 32) (xv / 32 % 32) ⟨h0k, by omega⟩ ⟨⟨by omega, by omega⟩, by omega, by omega⟩) m_11_24 m_12_0 m_12_1 m_0_2 m_12_2 hob rfl hd_yX4_isSeen rfl ⟨⟨by decide, by decide⟩, (by show (C + 24) + 3 ≤ 670140; omega), (by show (S + 6430) + 18 ≤ 7091351; omega)⟩ (Nat.le_of_ble_eq_true rfl) rfl dL_law_165 kxN (fun v w_6 H locs hq hP hD hS => ?_)
                refine W.widen (k := (C + 27)) (n := (S + 6448)) (by show (C + 24) + 3 ≤ (C + 27); omega) (by show (S + 6430) + 18 ≤ (S + 6448); omega) ?_
                rw [hq.2] at hP hD
                rw [hq.1]
                dsimp only [Option.toList, List.cons_append, List.nil_append]
                rw [show bz (seeB G3 k (xv % 32) (xv / 32 % 32)) = 1 from congrArg bz (hlf3.seen ⟨by omega, by omega⟩ ⟨by omega, by omega⟩)]
                refine r_if_eq (pc := 168) (a := 1) hx hb dL_law_168 (tgt := 221) (by decide) ⟨by omega, by omega⟩ (fun c_168 => ?_) (fun c_168 => ?_)
                · exact absurd c_168 (by decide)
                · have c_168_ := c_168
                  refine lv_aload_n (pc := 171) hx hb dL_law_171 rfl (lv_at hl 2 rfl) ?_
                  refine lv_iload_n (pc := 172) hx hb dL_law_172 rfl (lv_at hl 3 rfl) ?_
                  refine lv_iload_n (pc := 173) hx hb dL_law_173 rfl (lv_at hl 0 rfl) ?_
                  refine lv_bipush (pc := 174) (v := iv 9) hx hb dL_law_174 (by decide) ?_
                  refine r_irem (pc := 176) (a := xv) (b := 9) hx hb dL_law_176 ⟨⟨by omega, by omega⟩, by omega, by omega⟩ ?_
                  have hm_176 := Int.emod_nonneg xv (show 9 ≠ 0 by omega)
                  have hn_176 := Int.emod_lt_of_pos xv (show 0 < 9 by omega)
                  refine c_callV (pc := 177) (y := yX4_shines) (As := [.int (iv k), .int (iv (xv % 9))]) (rest := []) hC hE hP hD hS hl.1 (K_shines l ε hst hH k (xv % 9) ⟨h0k, by omega⟩ ⟨by omega, by omega⟩) m_10_21 m_10_22 m_10_23 m_0_2 m_10_24 hob rfl hd_yX4_shines rfl ⟨⟨by decide, by decide⟩, (by show (C + 27) + 2 ≤ 670140; omega), (by show (S + 6448) + 12 ≤ 7091351; omega)⟩ (Nat.le_of_ble_eq_true rfl) rfl dL_law_177 kxN (fun v w_7 H locs hq hP hD hS => ?_)
                  refine W.widen (k := (C + 29)) (n := (S + 6460)) (by show (C + 27) + 2 ≤ (C + 29); omega) (by show (S + 6448) + 12 ≤ (S + 6460); omega) ?_
                  rw [hq.2] at hP hD
                  rw [hq.1]
                  dsimp only [Option.toList, List.cons_append, List.nil_append]
                  rw [show bz (ON G3 k (xv % 9)) = 1 from congrArg bz ((hlf3.on _).trans (hpf3.light (by omega) (by omega) (by omega)))]
                  refine r_if_eq (pc := 180) (a := 1) hx hb dL_law_180 (tgt := 221) (by decide) ⟨by omega, by omega⟩ (fun c_180 => ?_) (fun c_180 => ?_)
                  · exact absurd c_180 (by decide)
                  · have c_180_ := c_180
                    refine lv_aload_n (pc := 183) hx hb dL_law_183 rfl (lv_at hl 2 rfl) ?_
                    refine lv_iload_n (pc := 184) hx hb dL_law_184 rfl (lv_at hl 3 rfl) ?_
                    refine lv_iconst (pc := 185) (v := iv 1) hx hb dL_law_185 rfl ?_
                    refine lv_iload_n (pc := 186) hx hb dL_law_186 rfl (lv_at hl 0 rfl) ?_
                    refine lv_bipush (pc := 187) (v := iv 9) hx hb dL_law_187 (by decide) ?_
                    refine r_irem (pc := 189) (a := xv) (b := 9) hx hb dL_law_189 ⟨⟨by omega, by omega⟩, by omega, by omega⟩ ?_
                    have hm_189 := Int.emod_nonneg xv (show 9 ≠ 0 by omega)
                    have hn_189 := Int.emod_lt_of_pos xv (show 0 < 9 by omega)
                    refine r_iadd (pc := 190) (a := 1) (b := xv % 9) hx hb dL_law_190 ?_
                    refine c_callV (pc := 191) (y := yX4_shines) (As := [.int (iv k), .int (iv (1 + (xv % 9)))]) (rest := []) hC hE hP hD hS hl.1 (K_shines l ε hst hH k (1 + xv % 9) ⟨h0k, by omega⟩ ⟨by omega, by omega⟩) m_10_21 m_10_22 m_10_23 m_0_2 m_10_24 hob rfl hd_yX4_shines rfl ⟨⟨by decide, by decide⟩, (by show (C + 29) + 2 ≤ 670140; omega), (by show (S + 6460) + 12 ≤ 7091351; omega)⟩ (Nat.le_of_ble_eq_true rfl) rfl dL_law_191 kxN (fun v w_8 H locs hq hP hD hS => ?_)
                    refine W.widen (k := (C + 31)) (n := (S + 6472)) (by show (C + 29) + 2 ≤ (C + 31); omega) (by show (S + 6460) + 12 ≤ (S + 6472); omega) ?_
                    rw [hq.2] at hP hD
                    rw [hq.1]
                    dsimp only [Option.toList, List.cons_append, List.nil_append]
                    rw [show bz (ON G3 k (1 + xv % 9)) = 0 from congrArg bz ((hlf3.on _).trans (hpf3.dark (by omega) (by omega)))]
                    refine r_if_ne (pc := 194) (a := 0) hx hb dL_law_194 (tgt := 221) (by decide) ⟨by omega, by omega⟩ (fun c_194 => ?_) (fun c_194 => ?_)
                    · exact absurd c_194 (by decide)
                    · have c_194_ := c_194
                      refine lv_aload_n (pc := 197) hx hb dL_law_197 rfl (lv_at hl 2 rfl) ?_
                      refine lv_iload_n (pc := 198) hx hb dL_law_198 rfl (lv_at hl 3 rfl) ?_
                      refine lv_iload_n (pc := 199) hx hb dL_law_199 rfl (lv_at hl 3 rfl) ?_
                      refine c_callV (pc := 200) (y := yX4_areAlike) (As := [.int (iv k), .int (iv k)]) (rest := []) hC hE hP hD hS hl.1 (K_areAlike l ε hst hH k k ⟨h0k, by omega⟩ ⟨h0k, by omega⟩) m_8_20 m_8_21 m_8_22 m_0_2 m_8_23 hob rfl hd_yX4_areAlike rfl ⟨⟨by decide, by decide⟩, (by show (C + 31) + 2 ≤ 670140; omega), (by show (S + 6472) + 12 ≤ 7091351; omega)⟩ (Nat.le_of_ble_eq_true rfl) rfl dL_law_200 kxN (fun v w_9 H locs hq hP hD hS => ?_)
                      refine W.widen (k := (C + 33)) (n := (S + 6484)) (by show (C + 31) + 2 ≤ (C + 33); omega) (by show (S + 6472) + 12 ≤ (S + 6484); omega) ?_
                      rw [hq.2] at hP hD
                      rw [hq.1]
                      dsimp only [Option.toList, List.cons_append, List.nil_append]
                      rw [show bz (ph1B G3 k k) = 1 from congrArg bz (ph1B_self (hH.inv.2.1.q h0k (by omega)))]
                      refine r_if_eq (pc := 203) (a := 1) hx hb dL_law_203 (tgt := 221) (by decide) ⟨by omega, by omega⟩ (fun c_203 => ?_) (fun c_203 => ?_)
                      · exact absurd c_203 (by decide)
                      · have c_203_ := c_203
                        refine lv_aload_n (pc := 206) hx hb dL_law_206 rfl (lv_at hl 2 rfl) ?_
                        refine lv_iload_n (pc := 207) hx hb dL_law_207 rfl (lv_at hl 3 rfl) ?_
                        refine lv_iconst (pc := 208) (v := iv 0) hx hb dL_law_208 rfl ?_
                        refine c_callV (pc := 209) (y := yX4_common) (As := [.int (iv k), .int (iv 0)]) (rest := []) hC hE hP hD hS hl.1 (K_common l ε hst hH k 0 ⟨h0k, by omega⟩ ⟨by decide, by omega⟩) m_12_7 m_12_8 m_12_9 m_0_2 m_12_10 hob rfl hd_yX4_common rfl ⟨⟨by decide, by decide⟩, (by show (C + 33) + 2 ≤ 670140; omega), (by show (S + 6484) + 12 ≤ 7091351; omega)⟩ (Nat.le_of_ble_eq_true rfl) rfl dL_law_209 kxN (fun v w_10 H locs hq hP hD hS => ?_)
                        refine W.widen (k := (C + 35)) (n := (S + 6496)) (by show (C + 33) + 2 ≤ (C + 35); omega) (by show (S + 6484) + 12 ≤ (S + 6496); omega) ?_
                        rw [hq.2] at hP hD
                        rw [hq.1]
                        dsimp only [Option.toList, List.cons_append, List.nil_append]
                        refine lv_aload_n (pc := 212) hx hb dL_law_212 rfl (lv_at hl 2 rfl) ?_
                        refine lv_iconst (pc := 213) (v := iv 0) hx hb dL_law_213 rfl ?_
                        refine lv_iload_n (pc := 214) hx hb dL_law_214 rfl (lv_at hl 3 rfl) ?_
                        refine c_callV (pc := 215) (y := yX4_common) (As := [.int (iv 0), .int (iv k)]) (rest := [.int (iv (shB G3 k 0))]) hC hE hP hD hS hl.1 (K_common l ε hst hH 0 k ⟨by decide, by omega⟩ ⟨h0k, by omega⟩) m_12_7 m_12_8 m_12_9 m_0_2 m_12_10 hob rfl hd_yX4_common rfl ⟨⟨by decide, by decide⟩, (by show (C + 35) + 2 ≤ 670140; omega), (by show (S + 6496) + 12 ≤ 7091351; omega)⟩ (Nat.le_of_ble_eq_true rfl) rfl dL_law_215 kxN (fun v w_11 H locs hq hP hD hS => ?_)
                        refine W.widen (k := (C + 37)) (n := (S + 6508)) (by show (C + 35) + 2 ≤ (C + 37); omega) (by show (S + 6496) + 12 ≤ (S + 6508); omega) ?_
                        rw [hq.2] at hP hD
                        rw [hq.1]
                        dsimp only [Option.toList, List.cons_append, List.nil_append]
                        rw [show shB G3 0 k = shB G3 k 0 from shB_comm 0 k]
                        refine r_same_eq (pc := 218) (tgt := 223) hx hb dL_law_218 (by decide) ?_
                        refine lv_iload_n (pc := 223) hx hb dL_law_223 rfl (lv_at hl 3 rfl) ?_
                        refine lv_iconst (pc := 224) (v := iv 4) hx hb dL_law_224 rfl ?_
                        refine r_irem (pc := 225) (a := k) (b := 4) hx hb dL_law_225 ⟨⟨by omega, by omega⟩, by omega, by omega⟩ ?_
                        have hm_225 := Int.emod_nonneg k (show 4 ≠ 0 by omega)
                        have hn_225 := Int.emod_lt_of_pos k (show 0 < 4 by omega)
                        refine r_if_ne (pc := 226) (a := k % 4) hx hb dL_law_226 (tgt := 285) (by decide) ⟨by omega, by omega⟩ (fun c_226 => ?_) (fun c_226 => ?_)
                        · have c_226_ := c_226
                          have hKK := JL.next h0k (by omega) hJ3
                          refine lv_iinc (v := iv (k + 1)) (lv' := [(2, .int (iv (k + 1))), (3, .int (iv xv)), (0, .ref b), (1, .ref x)]) (pc := 285) hx hb dL_law_285 hl (k := 3) rfl (iv_add _ _) (by decide) rfl (fun ls hl => ?_)
                          refine lv_goto (pc := 288) (tgt := 30) hx hb dL_law_288 (by decide) ?_
                          refine W.widen (k := (C + 1000)) (n := (S + 100000)) (by show (C + 37) + 0 ≤ (C + 1000); omega) (by show (S + 6508) + 0 ≤ (S + 100000); omega) ?_
                          exact hnx _ _ _ _ _ _ _ _ _ _ _ hC hE hL _ _ _ _ ⟨_, _, hH, hKK⟩ hP hD hS (lv_sub hl [2, 3, 0] rfl)
                        · have c_226_ := c_226
                          refine lv_aload_n (pc := 229) hx hb dL_law_229 rfl (lv_at hl 2 rfl) ?_
                          refine c_callV (pc := 230) (y := yX4_print) (As := []) (rest := []) hC hE hP hD hS hl.1 (K_print l ε hst hH (by omega)) m_12_11 m_12_12 m_12_13 m_0_2 m_12_14 hob rfl hd_yX4_print rfl ⟨⟨by decide, by decide⟩, (by show (C + 37) + 4 ≤ 670140; omega), (by show (S + 6508) + 1100 ≤ 7091351; omega)⟩ (Nat.le_of_ble_eq_true rfl) rfl dL_law_230 kxN (fun v w_12 H locs hq hP hD hS => ?_)
                          refine W.widen (k := (C + 41)) (n := (S + 7608)) (by show (C + 37) + 4 ≤ (C + 41); omega) (by show (S + 6508) + 1100 ≤ (S + 7608); omega) ?_
                          rw [hq.1, f4]
                          dsimp only [Option.toList, List.cons_append, List.nil_append]
                          have hJ4 := JL.print ⟨h0k, by omega⟩ (by omega) hJ3 hH.inv
                          obtain ⟨n4, G4, hH, hJ4⟩ : ∃ (n4 : Nat → Int) (G4 : Nat → Nat → Int), HS ε x n4 G4 w_12 ∧ ((n4 0 = 0 ∧ n4 1 = k + 1) ∧ (n4 2 = k + 1 ∧ n4 3 = k + 1) ∧ n4 4 = k / 4 + 1) ∧ JK (k + 1) n4 G4 ∧ PF k (1 + xv % 9) (1 + xv / 9 % 9) G4 ∧ LF k (xv % 32) (xv / 32 % 32) G4 ∧ G4 13 (12 * (k / 4) + k).toNat = k := ⟨_, _, hq.2, hJ4⟩
                          obtain ⟨⟨⟨g0, g1⟩, ⟨g2, g3⟩, g4⟩, hKK, hpf4, hlf4, h13⟩ := hJ4
                          obtain ⟨fo, hob⟩ := hH.ob
                          refine lv_iload_n (pc := 233) hx hb dL_law_233 rfl (lv_at hl 3 rfl) ?_
                          refine lv_iconst (pc := 234) (v := iv 4) hx hb dL_law_234 rfl ?_
                          refine r_idiv (pc := 235) (a := k) (b := 4) hx hb dL_law_235 ⟨⟨by omega, by omega⟩, by omega, by omega⟩ ?_
                          refine r_icmp_ne (pc := 236) (a := (k + 3) / 4) (b := k / 4) hx hb dL_law_236 (tgt := 283) (by decide) ⟨by omega, by omega⟩ ⟨by omega, by omega⟩ (fun c_236 => ?_) (fun c_236 => ?_)
                          · have c_236_ := c_236
                            omega
                          · have c_236_ := c_236
                            refine lv_aload_n (pc := 239) hx hb dL_law_239 rfl (lv_at hl 2 rfl) ?_
                            refine lv_iload_n (pc := 240) hx hb dL_law_240 rfl (lv_at hl 3 rfl) ?_
                            refine lv_iconst (pc := 241) (v := iv 4) hx hb dL_law_241 rfl ?_
                            refine r_idiv (pc := 242) (a := k) (b := 4) hx hb dL_law_242 ⟨⟨by omega, by omega⟩, by omega, by omega⟩ ?_
                            refine lv_iload_n (pc := 243) hx hb dL_law_243 rfl (lv_at hl 0 rfl) ?_
                            refine lv_bipush (pc := 244) (v := iv 32) hx hb dL_law_244 (by decide) ?_
                            refine r_irem (pc := 246) (a := xv) (b := 32) hx hb dL_law_246 ⟨⟨by omega, by omega⟩, by omega, by omega⟩ ?_
                            have hm_246 := Int.emod_nonneg xv (show 32 ≠ 0 by omega)
                            have hn_246 := Int.emod_lt_of_pos xv (show 0 < 32 by omega)
                            refine lv_iload_n (pc := 247) hx hb dL_law_247 rfl (lv_at hl 0 rfl) ?_
                            refine lv_bipush (pc := 248) (v := iv 32) hx hb dL_law_248 (by decide) ?_
                            refine r_idiv (pc := 250) (a := xv) (b := 32) hx hb dL_law_250 ⟨⟨by omega, by omega⟩, by omega, by omega⟩ ?_
                            refine lv_bipush (pc := 251) (v := iv 32) hx hb dL_law_251 (by decide) ?_
                            refine r_irem (pc := 253) (a := xv / 32) (b := 32) hx hb dL_law_253 ⟨⟨by omega, by omega⟩, by omega, by omega⟩ ?_
                            have hm_253 := Int.emod_nonneg (xv / 32) (show 32 ≠ 0 by omega)
                            have hn_253 := Int.emod_lt_of_pos (xv / 32) (show 0 < 32 by omega)
                            refine lv_iload_n (pc := 254) hx hb dL_law_254 rfl (lv_at hl 3 rfl) ?_
                            refine lv_iconst (pc := 255) (v := iv 0) hx hb dL_law_255 rfl ?_
                            refine lv_bipush (pc := 256) (v := iv 60) hx hb dL_law_256 (by decide) ?_
                            refine c_callV (pc := 258) (y := yX4_taken) (As := [.int (iv (k / 4)), .int (iv (xv % 32)), .int (iv ((xv / 32) % 32)), .int (iv k), .int (iv 0), .int (iv 60)]) (rest := []) hC hE hP hD hS hl.1 (K_taken l ε hst hH (k / 4) (xv % 32) (xv / 32 % 32) k 0 60 ⟨by omega, by omega⟩ ⟨h0k, by omega⟩ ⟨⟨by omega, by omega⟩, by omega, by omega⟩ ⟨by decide, by decide⟩ ⟨by decide, by decide⟩) m_15_15 m_15_16 m_15_17 m_0_2 m_15_18 hob rfl hd_yX4_taken rfl ⟨⟨by decide, by decide⟩, (by show (C + 41) + 6 ≤ 670140; omega), (by show (S + 7608) + 36 ≤ 7091351; omega)⟩ (Nat.le_of_ble_eq_true rfl) rfl dL_law_258 kxN (fun v w_13 H locs hq hP hD hS => ?_)
                            refine W.widen (k := (C + 47)) (n := (S + 7644)) (by show (C + 41) + 6 ≤ (C + 47); omega) (by show (S + 7608) + 36 ≤ (S + 7644); omega) ?_
                            rw [hq.2] at hP hD
                            rw [hq.1]
                            dsimp only [Option.toList, List.cons_append, List.nil_append]
                            have htb := takB_bd G4 (k / 4) (xv % 32) (xv / 32 % 32) k 0 60 (n4 2).toNat
                            have htn : takB G4 (k / 4) (xv % 32) (xv / 32 % 32) k 0 60 (n4 2).toNat ≠ -1 := taken_self (fr := 0) (many := 60) hpf4 hlf4 ⟨by omega, by omega⟩ ⟨by omega, by omega⟩ (by omega) (by omega) ⟨h0k, by omega⟩ h13
                            refine lv_iconst (pc := 261) (v := iv (-1)) hx hb dL_law_261 rfl ?_
                            refine r_icmp_eq (pc := 262) (a := takB G4 (k / 4) (xv % 32) (xv / 32 % 32) k 0 60 (n4 2).toNat) (b := (-1)) hx hb dL_law_262 (tgt := 283) (by decide) ⟨by omega, by omega⟩ ⟨by omega, by omega⟩ (fun c_262 => ?_) (fun c_262 => ?_)
                            · have c_262_ := c_262
                              exact absurd c_262 htn
                            · have c_262_ := c_262
                              refine lv_aload_n (pc := 265) hx hb dL_law_265 rfl (lv_at hl 2 rfl) ?_
                              refine lv_iload_n (pc := 266) hx hb dL_law_266 rfl (lv_at hl 3 rfl) ?_
                              refine lv_iconst (pc := 267) (v := iv 1) hx hb dL_law_267 rfl ?_
                              refine r_iadd (pc := 268) (a := k) (b := 1) hx hb dL_law_268 ?_
                              refine lv_iload_n (pc := 269) hx hb dL_law_269 rfl (lv_at hl 3 rfl) ?_
                              refine lv_iconst (pc := 270) (v := iv 1) hx hb dL_law_270 rfl ?_
                              refine r_iadd (pc := 271) (a := k) (b := 1) hx hb dL_law_271 ?_
                              refine lv_iload_n (pc := 272) hx hb dL_law_272 rfl (lv_at hl 3 rfl) ?_
                              refine lv_iconst (pc := 273) (v := iv 4) hx hb dL_law_273 rfl ?_
                              refine r_idiv (pc := 274) (a := k) (b := 4) hx hb dL_law_274 ⟨⟨by omega, by omega⟩, by omega, by omega⟩ ?_
                              refine lv_iconst (pc := 275) (v := iv 1) hx hb dL_law_275 rfl ?_
                              refine r_iadd (pc := 276) (a := k / 4) (b := 1) hx hb dL_law_276 ?_
                              refine c_callS (pc := 277) (y := yL_refuses) (As := [.ref x, .int (iv (k + 1)), .int (iv (k + 1)), .int (iv ((k / 4) + 1))]) (rest := []) hC hE hP hD hS hl.1 (A_refuses l ε hst hH (k + 1) (k + 1) (k / 4 + 1) (by omega) (by omega) (by omega) (by omega)) m_1_19 m_1_20 m_0_5 m_1_21 hd_yL_refuses rfl ⟨⟨by decide, by decide⟩, (by show (C + 47) + 844 ≤ 670140; omega), (by show (S + 7644) + 86632 ≤ 7091351; omega)⟩ (Nat.le_of_ble_eq_true rfl) rfl dL_law_277 kxN (fun v w_14 H locs hq hP hD hS => ?_)
                              refine W.widen (k := (C + 891)) (n := (S + 94276)) (by show (C + 47) + 844 ≤ (C + 891); omega) (by show (S + 7644) + 86632 ≤ (S + 94276); omega) ?_
                              rw [hq.2] at hP hD
                              rw [hq.1]
                              dsimp only [Option.toList, List.cons_append, List.nil_append]
                              refine r_if_ne (pc := 280) (a := 1) hx hb dL_law_280 (tgt := 285) (by decide) ⟨by omega, by omega⟩ (fun c_280 => ?_) (fun c_280 => ?_)
                              · have c_280_ := c_280
                                refine lv_iinc (v := iv (k + 1)) (lv' := [(2, .int (iv (k + 1))), (3, .int (iv xv)), (0, .ref b), (1, .ref x)]) (pc := 285) hx hb dL_law_285 hl (k := 3) rfl (iv_add _ _) (by decide) rfl (fun ls hl => ?_)
                                refine lv_goto (pc := 288) (tgt := 30) hx hb dL_law_288 (by decide) ?_
                                refine W.widen (k := (C + 1000)) (n := (S + 100000)) (by show (C + 891) + 0 ≤ (C + 1000); omega) (by show (S + 94276) + 0 ≤ (S + 100000); omega) ?_
                                exact hnx _ _ _ _ _ _ _ _ _ _ _ hC hE hL _ _ _ _ ⟨_, _, hH, hKK⟩ hP hD hS (lv_sub hl [2, 3, 0] rfl)
                              · exact absurd c_280 (by decide)
    refine r_if_ne (pc := 38) (a := (L : Int)) hx hb dL_law_38 (tgt := 48) (by decide) ⟨by omega, by omega⟩ (fun c_38 => ?_) (fun c_38 => ?_)
    · have c_38_ := c_38
      refine lv_aload_n (pc := 48) hx hb dL_law_48 rfl (lv_at hl 0 rfl) ?_
      refine lv_iload_n (pc := 49) hx hb dL_law_49 rfl (lv_at hl 2 rfl) ?_
      refine lv_aload_n (pc := 50) hx hb dL_law_50 rfl (lv_at hl 0 rfl) ?_
      refine r_slen (pc := 51) hC hL.2.1 hL.2.2.1 hL.2.2.2.1 hS dL_law_51 ?_
      refine r_irem (pc := 52) (a := k) (b := (L : Int)) hx hb dL_law_52 ⟨⟨by omega, by omega⟩, by omega, by omega⟩ ?_
      have hm_52 := Int.emod_nonneg k (show ((L : Int)) ≠ 0 by omega)
      have hn_52 := Int.emod_lt_of_pos k (show 0 < ((L : Int)) by omega)
      refine r_sld (pc := 53) (z := k % ((L : Int))) hC hL.2.1 hL.2.2.1 hL.2.2.2.1 hS ⟨by omega, by omega, by omega⟩ dL_law_53 ?_
      refine lv_bipush (pc := 54) (v := iv 8) hx hb dL_law_54 (by decide) ?_
      refine r_ushr8 (pc := 56) hx hb dL_law_56 (fun z9 hz1 hz2 => ?_)
      exact lp_57 z9 (by omega) _ _ _ hP hD hS (lv_sub hl [0, 1, 2] rfl)
    · have c_38_ := c_38
      refine lv_bipush (pc := 41) (v := iv 67) hx hb dL_law_41 (by decide) ?_
      refine lv_iload_n (pc := 43) hx hb dL_law_43 rfl (lv_at hl 2 rfl) ?_
      refine r_imul (pc := 44) (a := 67) (b := k) hx hb dL_law_44 ?_
      refine lv_goto (pc := 45) (tgt := 57) hx hb dL_law_45 (by decide) ?_
      exact lp_57 (67 * k) (by omega) _ _ _ hP hD hS (lv_sub hl [0, 1, 2] rfl)
set_option maxRecDepth 100000 in
set_option maxHeartbeats 4000000 in
theorem law_end (l : Launch) (ε : EV) (hst : l.stackTraces = false) {b L : Nat} {xs : Nat → Int32} {x : Nat} (C S : Nat) (hCC : C + 1000 ≤ 670140) (hSS : S + 100000 ≤ 7091351) : LSG l ε b L xs 30 C S [(0, .ref b), (1, .ref x), (2, .int (iv 12))] (fun z => ∃ (n : Nat → Int) (G : Nat → Nat → Int), HS ε x n G z ∧ JK 12 n G) := by
  intro p9 e9 s9 m9 a9 bl9 me9 c9 Q9 nm9 tb9 hC hE hL H locs ls w9 hH hP hD hS hl
  have hx := hC.1
  have hb := hC.2.1
  have hK := hE.K
  obtain ⟨n, G, hH, hJ⟩ := hH
  obtain ⟨fo, hob⟩ := hH.ob
  obtain ⟨⟨b0, b1⟩, ⟨b2, b3⟩, b4⟩ := id hJ.1
  refine lv_iload_n (pc := 30) hx hb dL_law_30 rfl (lv_at hl 2 rfl) ?_
  refine lv_bipush (pc := 31) (v := iv 12) hx hb dL_law_31 (by decide) ?_
  refine r_icmp_ge (pc := 33) (a := 12) (b := 12) hx hb dL_law_33 (tgt := 291) (by decide) ⟨by omega, by omega⟩ ⟨by omega, by omega⟩ (fun c_33 => ?_) (fun c_33 => ?_)
  · have c_33_ := c_33
    refine lv_aload_n (pc := 291) hx hb dL_law_291 rfl (lv_at hl 1 rfl) ?_
    refine c_callV (pc := 292) (y := yX4_notices) (As := []) (rest := []) hC hE hP hD hS hl.1 (K_notices l ε hst hH) m_1_24 m_2_0 m_2_1 m_0_2 m_2_2 hob rfl hd_yX4_notices rfl ⟨⟨by decide, by decide⟩, (by show C + 0 ≤ 670140; omega), (by show S + 0 ≤ 7091351; omega)⟩ (Nat.le_of_ble_eq_true rfl) rfl dL_law_292 kxN (fun v w_1 H locs hq hP hD hS => ?_)
    refine W.widen (k := C) (n := S) (by show C + 0 ≤ C; omega) (by show S + 0 ≤ S; omega) ?_
    rw [hq.2] at hP hD
    rw [hq.1]
    dsimp only [Option.toList, List.cons_append, List.nil_append]
    rw [show n 3 = 12 from b3]
    refine lv_bipush (pc := 295) (v := iv 12) hx hb dL_law_295 (by decide) ?_
    refine r_icmp_ne (pc := 297) (a := 12) (b := 12) hx hb dL_law_297 (tgt := 304) (by decide) ⟨by omega, by omega⟩ ⟨by omega, by omega⟩ (fun c_297 => ?_) (fun c_297 => ?_)
    · exact absurd c_297 (by decide)
    · have c_297_ := c_297
      refine lv_iconst (pc := 300) (v := iv 1) hx hb dL_law_300 rfl ?_
      refine lv_goto (pc := 301) (tgt := 305) hx hb dL_law_301 (by decide) ?_
      obtain ⟨ha9, -, -, -, -, hε, hr9, hlk9, hQ9⟩ := hL
      subst ha9
      subst hQ9
      refine va_forget (fun q hq => by have z := hS.2.2 q hq; have z2 : ε.1 ≤ q.base := z; omega) ?_
      refine W.widen (k := 670140) (n := 7091351) (by show C ≤ 670140; omega) (by show S ≤ 7091351; omega) ?_
      exact lw_ret hx hb hr9 hlk9 dL_law_305
  · exact absurd c_33 (by decide)
theorem law_loop (l : Launch) (ε : EV) (hst : l.stackTraces = false) {b L : Nat} {xs : Nat → Int32} {x : Nat} : ∀ (f : Nat) (k : Int), 0 ≤ k → k + f = 12 → LSG l ε b L xs 30 (7274 + 1000 * k.toNat) (806064 + 100000 * k.toNat) [(0, .ref b), (1, .ref x), (2, .int (iv k))] (fun z => ∃ (n : Nat → Int) (G : Nat → Nat → Int), HS ε x n G z ∧ JK k n G) := by
  intro f
  induction f with
  | zero =>
    intro k h0 h1
    have e : k = 12 := by omega
    subst e
    exact law_end l ε hst _ _ (by decide) (by decide)
  | succ f ih =>
    intro k h0 h1
    refine law_step l ε hst k ⟨h0, by omega⟩ _ _ (by omega) (by omega) ?_
    have h := ih (k + 1) (by omega) (by omega)
    rw [show 7274 + 1000 * (k + 1).toNat = 7274 + 1000 * k.toNat + 1000 by omega, show 806064 + 100000 * (k + 1).toNat = 806064 + 100000 * k.toNat + 100000 by omega] at h
    exact h
