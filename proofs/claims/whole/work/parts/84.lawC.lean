set_option maxRecDepth 100000 in
set_option maxHeartbeats 4000000 in
theorem law_c8 {p : Program} {l : Launch} {e : Env} {s : State} {m : MethodId} {b N : Nat} {xs : Nat → Int32} {below : List Frame} {meth : Method} {c : Code} {ε : EV} {x m0 : Nat} {ad : Nat → Nat} {o : Nat} {Q : State → Prop} {k : Nat} (h0 : LCX p l s m b N xs meth c ε k) (nx : LAT p l e s m b below meth c ε x m0 ad o Q 1396 k (k + 1)) : LAT p l e s m b below meth c ε x m0 ad o Q 706 k k := by
  intro n G g L f ρ H locs ls hW hP hD hS hl
  obtain ⟨hI, h3, hR⟩ := hW
  obtain ⟨⟨nm9, tb9, hC⟩, hE, hst, hX, hbl, hbA, hN1, hN2⟩ := h0
  have hx := hC.1
  have hb := hC.2.1
  have hK := hE.K
  have hnb := hI.NB
  obtain ⟨i, hz_i⟩ : ∃ z : Int, z = ZZ xs (7 * (k : Int) + 1) := ⟨_, rfl⟩
  have ri : rg i := by rw [hz_i]; exact ZZ_rg _ _
  obtain ⟨t, hz_t⟩ : ∃ z : Int, z = ZZ xs (7 * (k : Int) + 2) := ⟨_, rfl⟩
  have rt : rg t := by rw [hz_t]; exact ZZ_rg _ _
  refine lv_aload_n (pc := 706) hx hb dL_law_706 rfl (lv_at hl 2 rfl) ?_
  refine lv_aload_n (pc := 707) hx hb dL_law_707 rfl (lv_at hl 1 rfl) ?_
  refine lv_iload (pc := 708) hx hb dL_law_708 (lv_at hl 0 rfl) ?_
  refine lv_iconst (pc := 710) (v := iv 1) hx hb dL_law_710 rfl ?_
  refine r_iadd (pc := 711) (a := 7 * (k : Int)) (b := 1) hx hb dL_law_711 ?_
  refine r_sld (pc := 712) (z := (7 * (k : Int)) + 1) (v := i) hC hX hbl hbA hS ⟨by omega, by omega, by omega⟩ hz_i dL_law_712 ?_
  refine lv_aload_n (pc := 713) hx hb dL_law_713 rfl (lv_at hl 1 rfl) ?_
  refine lv_iload (pc := 714) hx hb dL_law_714 (lv_at hl 0 rfl) ?_
  refine lv_iconst (pc := 716) (v := iv 2) hx hb dL_law_716 rfl ?_
  refine r_iadd (pc := 717) (a := 7 * (k : Int)) (b := 2) hx hb dL_law_717 ?_
  refine r_sld (pc := 718) (z := (7 * (k : Int)) + 2) (v := t) hC hX hbl hbA hS ⟨by omega, by omega, by omega⟩ hz_t dL_law_718 ?_
  refine lv_aload_n (pc := 719) hx hb dL_law_719 rfl (lv_at hl 4 rfl) ?_
  replace hP : WP ε ((wM ε m0 ad n G ++ [(o, eJ ε 1 g)]) ++ va_pl L f) H := by rw [List.append_assoc]; exact hP
  replace hD : WD ε ((wM ε m0 ad n G ++ [(o, eJ ε 1 g)]) ++ va_pl L f) := by rw [List.append_assoc]; exact hD
  refine c_callSW (pc := 720) (y := yL_shines) (hh := [(0, 17, 20, 24), (0, 17, 24, 13)]) (As := [.ref x, .int (iv i), .int (iv t), .ref o]) (rest := []) hC hE hP hD hS hl.1 (c_L_shines l ε (wM ε m0 ad n G) o g L f ρ hst x n G hR hI i t ri rt) m_15_8 m_15_9 m_2_9 m_15_10 hd_yL_shines rfl ⟨⟨by decide, by decide⟩, (by show 40 + 20 * k + 2 ≤ 601024; omega), (by show 5000 + 3400 * k + 12 ≤ 7293034; omega)⟩ (Nat.le_of_ble_eq_true rfl) rfl dL_law_720 kxN (fun v9 w9 H locs hq hP hD hS => ?_)
  rcases hq with hq | hq | hq
  · obtain ⟨hc9, hv_, L2, f2, ρ2, hw_, hR2⟩ := hq
    rw [hw_, List.append_assoc] at hP hD
    rw [hv_]
    clear hv_ hw_
    dsimp only [Option.toList, List.cons_append, List.nil_append]
    refine lv_istore (lv' := [(5, .int (iv 0)), (4, .int (iv (7 * (k : Int)))), (0, .ref b), (1, .ref x), (2, .ref m0), (3, .ref o)]) (pc := 723) hx hb dL_law_723 hl (by decide) rfl (fun ls hl => ?_)
    refine lv_aload_n (pc := 725) hx hb dL_law_725 rfl (lv_at hl 4 rfl) ?_
    refine lv_aload_n (pc := 726) hx hb dL_law_726 rfl (lv_at hl 2 rfl) ?_
    refine lv_iload (pc := 727) hx hb dL_law_727 (lv_at hl 1 rfl) ?_
    refine lv_iconst (pc := 729) (v := iv 1) hx hb dL_law_729 rfl ?_
    refine r_iadd (pc := 730) (a := 7 * (k : Int)) (b := 1) hx hb dL_law_730 ?_
    refine r_sld (pc := 731) (z := (7 * (k : Int)) + 1) (v := i) hC hX hbl hbA hS ⟨by omega, by omega, by omega⟩ hz_i dL_law_731 ?_
    refine lv_aload_n (pc := 732) hx hb dL_law_732 rfl (lv_at hl 2 rfl) ?_
    refine lv_iload (pc := 733) hx hb dL_law_733 (lv_at hl 1 rfl) ?_
    refine lv_iconst (pc := 735) (v := iv 2) hx hb dL_law_735 rfl ?_
    refine r_iadd (pc := 736) (a := 7 * (k : Int)) (b := 2) hx hb dL_law_736 ?_
    refine r_sld (pc := 737) (z := (7 * (k : Int)) + 2) (v := t) hC hX hbl hbA hS ⟨by omega, by omega, by omega⟩ hz_t dL_law_737 ?_
    refine c_callV (pc := 738) (y := yX5_shines) (As := [.int (iv i), .int (iv t)]) (rest := []) hC hE hP hD hS hl.1 (c_m_shines l ε m0 ad n G ([(o, eJ ε 1 (va_up g 0 (bz (ON G i t))))] ++ va_pl L2 f2) i t ri rt hI.2.1 hI.2.2.1) m_15_21 m_15_22 m_15_23 m_0_5 m_15_24 wM_o rfl hd_yX5_shines rfl ⟨⟨by decide, by decide⟩, (by show 40 + 20 * k + 2 + 0 ≤ 601024; omega), (by show 5000 + 3400 * k + 12 + 0 ≤ 7293034; omega)⟩ (Nat.le_of_ble_eq_true rfl) rfl dL_law_738 kxN (fun v9 w9 H locs hq hP hD hS => ?_)
    rcases hq with hq | hq | hq
    · obtain ⟨hd9, hv_, hw_⟩ := hq
      clear hC hE hK hx hb hI hR hR2 nx hP hD hS hl hX
      exfalso
      omega
    · obtain ⟨hd9, hv_, hw_⟩ := hq
      clear hC hE hK hx hb hI hR hR2 nx hP hD hS hl hX
      exfalso
      omega
    · obtain ⟨hd9, hv_, hw_⟩ := hq
      rw [hw_] at hP hD
      rw [hv_]
      clear hv_ hw_
      dsimp only [Option.toList, List.cons_append, List.nil_append]
      refine lv_istore (lv' := [(6, .int (iv (bz (ON G i t)))), (5, .int (iv 0)), (4, .int (iv (7 * (k : Int)))), (0, .ref b), (1, .ref x), (2, .ref m0), (3, .ref o)]) (pc := 741) hx hb dL_law_741 hl (by decide) rfl (fun ls hl => ?_)
      refine lv_aload_n (pc := 743) hx hb dL_law_743 rfl (lv_at hl 5 rfl) ?_
      refine c_callV (pc := 744) (y := yX5_thrown) (As := []) (rest := []) hC hE hP hD hS hl.1 (c_m_thrown l ε m0 ad (va_up n 5 0) G ([(o, eJ ε 1 (va_up g 0 (bz (ON G i t))))] ++ va_pl L2 f2)) m_3_8 m_3_9 m_3_10 m_0_5 m_3_11 wM_o rfl hd_yX5_thrown rfl ⟨⟨by decide, by decide⟩, (by show 40 + 20 * k + 2 + 0 + 0 ≤ 601024; omega), (by show 5000 + 3400 * k + 12 + 0 + 0 ≤ 7293034; omega)⟩ (Nat.le_of_ble_eq_true rfl) rfl dL_law_744 kxN (fun v9 w9 H locs hq hP hD hS => ?_)
      rw [hq.2] at hP hD
      rw [hq.1]
      dsimp only [Option.toList, List.cons_append, List.nil_append]
      rw [show (va_up n 5 0) 5 = 0 from rfl]
      refine lv_iload (pc := 747) hx hb dL_law_747 (lv_at hl 1 rfl) ?_
      refine r_icmp_eq (pc := 749) (a := 0) (b := 0) hx hb dL_law_749 (tgt := 754) (by decide) ⟨by omega, by omega⟩ ⟨by omega, by omega⟩ (fun c_749 => ?_) (fun c_749 => ?_)
      · have c_749_ := c_749
        refine lv_iload (pc := 754) hx hb dL_law_754 (lv_at hl 1 rfl) ?_
        refine r_if_ne (pc := 756) (a := 0) hx hb dL_law_756 (tgt := 778) (by decide) ⟨by omega, by omega⟩ (fun c_756 => ?_) (fun c_756 => ?_)
        · exact absurd c_756 (by decide)
        · have c_756_ := c_756
          refine lv_aload_n (pc := 759) hx hb dL_law_759 rfl (lv_at hl 6 rfl) ?_
          refine lv_iconst (pc := 760) (v := iv 0) hx hb dL_law_760 rfl ?_
          refine r_jald (pc := 761) (z := 0) hC hK hP wM_out ⟨by decide, by decide, by decide⟩ dL_law_761 ?_
          rw [show (va_up g 0 (bz (ON G i t))) (Int.toNat 0) = bz (ON G i t) from va_up_self _ _ _]
          refine lv_iload (pc := 762) hx hb dL_law_762 (lv_at hl 0 rfl) ?_
          refine r_if_b0 (pc := 764) (b := ON G i t) hx hb dL_law_764 (tgt := 771) (by decide)  (fun c_764 => ?_) (fun c_764 => ?_)
          · have c_764_ := c_764
            refine lv_lconst (pc := 771) (v := jv 0) hx hb dL_law_771 (by decide) ?_
            rw [show bz (ON G i t) = 0 by rw [c_764]; rfl]
            refine W.lcmp (pc := 772) (x := jv 0) (y := jv 0) hx hb dL_law_772 ?_
            rw [lg_cmp_jv ⟨by omega, by omega⟩ ⟨by omega, by omega⟩]
            have hcm_772 := cmpI_self 0
            refine r_if_eq (pc := 773) (a := cmpI 0 0) hx hb dL_law_773 (tgt := 778) (by decide) ⟨by omega, by omega⟩ (fun c_773 => ?_) (fun c_773 => ?_)
            · have c_773_ := c_773
              refine lv_goto (pc := 778) (tgt := 1396) hx hb dL_law_778 (by decide) ?_
              refine W.widen (k := 40 + 20 * (k + 1)) (n := 5000 + 3400 * (k + 1)) (by show 40 + 20 * k + 2 + 0 + 0 ≤ _; omega) (by show 5000 + 3400 * k + 12 + 0 + 0 ≤ _; omega) ?_
              exact nx (va_up n 5 0) G (va_up g 0 (bz (ON G i t))) L2 f2 ρ2 _ _ _ ⟨INV.n5 hI, (show n 3 ≤ ((k + 1 : Nat) : Int) by omega), RX.num hR2 rfl rfl rfl rfl rfl⟩ hP hD hS (lv_sub hl [2, 3, 4, 5, 6] rfl)
            · have c_773_ := c_773
              exact absurd (cmpI_self _) c_773
          · have c_764_ := c_764
            refine lv_lconst (pc := 767) (v := jv 1) hx hb dL_law_767 (by decide) ?_
            refine lv_goto (pc := 768) (tgt := 772) hx hb dL_law_768 (by decide) ?_
            rw [show bz (ON G i t) = 1 by rw [c_764]; rfl]
            refine W.lcmp (pc := 772) (x := jv 1) (y := jv 1) hx hb dL_law_772 ?_
            rw [lg_cmp_jv ⟨by omega, by omega⟩ ⟨by omega, by omega⟩]
            have hcm_772 := cmpI_self 1
            refine r_if_eq (pc := 773) (a := cmpI 1 1) hx hb dL_law_773 (tgt := 778) (by decide) ⟨by omega, by omega⟩ (fun c_773 => ?_) (fun c_773 => ?_)
            · have c_773_ := c_773
              refine lv_goto (pc := 778) (tgt := 1396) hx hb dL_law_778 (by decide) ?_
              refine W.widen (k := 40 + 20 * (k + 1)) (n := 5000 + 3400 * (k + 1)) (by show 40 + 20 * k + 2 + 0 + 0 ≤ _; omega) (by show 5000 + 3400 * k + 12 + 0 + 0 ≤ _; omega) ?_
              exact nx (va_up n 5 0) G (va_up g 0 (bz (ON G i t))) L2 f2 ρ2 _ _ _ ⟨INV.n5 hI, (show n 3 ≤ ((k + 1 : Nat) : Int) by omega), RX.num hR2 rfl rfl rfl rfl rfl⟩ hP hD hS (lv_sub hl [2, 3, 4, 5, 6] rfl)
            · have c_773_ := c_773
              exact absurd (cmpI_self _) c_773
      · exact absurd c_749 (by decide)
  · obtain ⟨hc9, hv_, L2, f2, ρ2, hw_, hR2⟩ := hq
    rw [hw_, List.append_assoc] at hP hD
    rw [hv_]
    clear hv_ hw_
    dsimp only [Option.toList, List.cons_append, List.nil_append]
    refine lv_istore (lv' := [(5, .int (iv 1)), (4, .int (iv (7 * (k : Int)))), (0, .ref b), (1, .ref x), (2, .ref m0), (3, .ref o)]) (pc := 723) hx hb dL_law_723 hl (by decide) rfl (fun ls hl => ?_)
    refine lv_aload_n (pc := 725) hx hb dL_law_725 rfl (lv_at hl 4 rfl) ?_
    refine lv_aload_n (pc := 726) hx hb dL_law_726 rfl (lv_at hl 2 rfl) ?_
    refine lv_iload (pc := 727) hx hb dL_law_727 (lv_at hl 1 rfl) ?_
    refine lv_iconst (pc := 729) (v := iv 1) hx hb dL_law_729 rfl ?_
    refine r_iadd (pc := 730) (a := 7 * (k : Int)) (b := 1) hx hb dL_law_730 ?_
    refine r_sld (pc := 731) (z := (7 * (k : Int)) + 1) (v := i) hC hX hbl hbA hS ⟨by omega, by omega, by omega⟩ hz_i dL_law_731 ?_
    refine lv_aload_n (pc := 732) hx hb dL_law_732 rfl (lv_at hl 2 rfl) ?_
    refine lv_iload (pc := 733) hx hb dL_law_733 (lv_at hl 1 rfl) ?_
    refine lv_iconst (pc := 735) (v := iv 2) hx hb dL_law_735 rfl ?_
    refine r_iadd (pc := 736) (a := 7 * (k : Int)) (b := 2) hx hb dL_law_736 ?_
    refine r_sld (pc := 737) (z := (7 * (k : Int)) + 2) (v := t) hC hX hbl hbA hS ⟨by omega, by omega, by omega⟩ hz_t dL_law_737 ?_
    refine c_callV (pc := 738) (y := yX5_shines) (As := [.int (iv i), .int (iv t)]) (rest := []) hC hE hP hD hS hl.1 (c_m_shines l ε m0 ad n G ([(o, eJ ε 1 g)] ++ va_pl L2 f2) i t ri rt hI.2.1 hI.2.2.1) m_15_21 m_15_22 m_15_23 m_0_5 m_15_24 wM_o rfl hd_yX5_shines rfl ⟨⟨by decide, by decide⟩, (by show 40 + 20 * k + 2 + 0 ≤ 601024; omega), (by show 5000 + 3400 * k + 12 + 0 ≤ 7293034; omega)⟩ (Nat.le_of_ble_eq_true rfl) rfl dL_law_738 kxN (fun v9 w9 H locs hq hP hD hS => ?_)
    rcases hq with hq | hq | hq
    · obtain ⟨hd9, hv_, hw_⟩ := hq
      rw [hw_] at hP hD
      rw [hv_]
      clear hv_ hw_
      dsimp only [Option.toList, List.cons_append, List.nil_append]
      refine lv_istore (lv' := [(6, .int (iv 0)), (5, .int (iv 1)), (4, .int (iv (7 * (k : Int)))), (0, .ref b), (1, .ref x), (2, .ref m0), (3, .ref o)]) (pc := 741) hx hb dL_law_741 hl (by decide) rfl (fun ls hl => ?_)
      refine lv_aload_n (pc := 743) hx hb dL_law_743 rfl (lv_at hl 5 rfl) ?_
      refine c_callV (pc := 744) (y := yX5_thrown) (As := []) (rest := []) hC hE hP hD hS hl.1 (c_m_thrown l ε m0 ad (va_up n 5 1) G ([(o, eJ ε 1 g)] ++ va_pl L2 f2)) m_3_8 m_3_9 m_3_10 m_0_5 m_3_11 wM_o rfl hd_yX5_thrown rfl ⟨⟨by decide, by decide⟩, (by show 40 + 20 * k + 2 + 0 + 0 ≤ 601024; omega), (by show 5000 + 3400 * k + 12 + 0 + 0 ≤ 7293034; omega)⟩ (Nat.le_of_ble_eq_true rfl) rfl dL_law_744 kxN (fun v9 w9 H locs hq hP hD hS => ?_)
      rw [hq.2] at hP hD
      rw [hq.1]
      dsimp only [Option.toList, List.cons_append, List.nil_append]
      rw [show (va_up n 5 1) 5 = 1 from rfl]
      refine lv_iload (pc := 747) hx hb dL_law_747 (lv_at hl 1 rfl) ?_
      refine r_icmp_eq (pc := 749) (a := 1) (b := 1) hx hb dL_law_749 (tgt := 754) (by decide) ⟨by omega, by omega⟩ ⟨by omega, by omega⟩ (fun c_749 => ?_) (fun c_749 => ?_)
      · have c_749_ := c_749
        refine lv_iload (pc := 754) hx hb dL_law_754 (lv_at hl 1 rfl) ?_
        refine r_if_ne (pc := 756) (a := 1) hx hb dL_law_756 (tgt := 778) (by decide) ⟨by omega, by omega⟩ (fun c_756 => ?_) (fun c_756 => ?_)
        · have c_756_ := c_756
          refine lv_goto (pc := 778) (tgt := 1396) hx hb dL_law_778 (by decide) ?_
          refine W.widen (k := 40 + 20 * (k + 1)) (n := 5000 + 3400 * (k + 1)) (by show 40 + 20 * k + 2 + 0 + 0 ≤ _; omega) (by show 5000 + 3400 * k + 12 + 0 + 0 ≤ _; omega) ?_
          exact nx (va_up n 5 1) G g L2 f2 ρ2 _ _ _ ⟨INV.n5 hI, (show n 3 ≤ ((k + 1 : Nat) : Int) by omega), RX.num hR2 rfl rfl rfl rfl rfl⟩ hP hD hS (lv_sub hl [2, 3, 4, 5, 6] rfl)
        · exact absurd c_756 (by decide)
      · exact absurd c_749 (by decide)
    · obtain ⟨hd9, hv_, hw_⟩ := hq
      clear hC hE hK hx hb hI hR hR2 nx hP hD hS hl hX
      exfalso
      omega
    · obtain ⟨hd9, hv_, hw_⟩ := hq
      clear hC hE hK hx hb hI hR hR2 nx hP hD hS hl hX
      exfalso
      omega
  · obtain ⟨hc9, hv_, L2, f2, ρ2, hw_, hR2⟩ := hq
    rw [hw_, List.append_assoc] at hP hD
    rw [hv_]
    clear hv_ hw_
    dsimp only [Option.toList, List.cons_append, List.nil_append]
    refine lv_istore (lv' := [(5, .int (iv 2)), (4, .int (iv (7 * (k : Int)))), (0, .ref b), (1, .ref x), (2, .ref m0), (3, .ref o)]) (pc := 723) hx hb dL_law_723 hl (by decide) rfl (fun ls hl => ?_)
    refine lv_aload_n (pc := 725) hx hb dL_law_725 rfl (lv_at hl 4 rfl) ?_
    refine lv_aload_n (pc := 726) hx hb dL_law_726 rfl (lv_at hl 2 rfl) ?_
    refine lv_iload (pc := 727) hx hb dL_law_727 (lv_at hl 1 rfl) ?_
    refine lv_iconst (pc := 729) (v := iv 1) hx hb dL_law_729 rfl ?_
    refine r_iadd (pc := 730) (a := 7 * (k : Int)) (b := 1) hx hb dL_law_730 ?_
    refine r_sld (pc := 731) (z := (7 * (k : Int)) + 1) (v := i) hC hX hbl hbA hS ⟨by omega, by omega, by omega⟩ hz_i dL_law_731 ?_
    refine lv_aload_n (pc := 732) hx hb dL_law_732 rfl (lv_at hl 2 rfl) ?_
    refine lv_iload (pc := 733) hx hb dL_law_733 (lv_at hl 1 rfl) ?_
    refine lv_iconst (pc := 735) (v := iv 2) hx hb dL_law_735 rfl ?_
    refine r_iadd (pc := 736) (a := 7 * (k : Int)) (b := 2) hx hb dL_law_736 ?_
    refine r_sld (pc := 737) (z := (7 * (k : Int)) + 2) (v := t) hC hX hbl hbA hS ⟨by omega, by omega, by omega⟩ hz_t dL_law_737 ?_
    refine c_callV (pc := 738) (y := yX5_shines) (As := [.int (iv i), .int (iv t)]) (rest := []) hC hE hP hD hS hl.1 (c_m_shines l ε m0 ad n G ([(o, eJ ε 1 g)] ++ va_pl L2 f2) i t ri rt hI.2.1 hI.2.2.1) m_15_21 m_15_22 m_15_23 m_0_5 m_15_24 wM_o rfl hd_yX5_shines rfl ⟨⟨by decide, by decide⟩, (by show 40 + 20 * k + 2 + 0 ≤ 601024; omega), (by show 5000 + 3400 * k + 12 + 0 ≤ 7293034; omega)⟩ (Nat.le_of_ble_eq_true rfl) rfl dL_law_738 kxN (fun v9 w9 H locs hq hP hD hS => ?_)
    rcases hq with hq | hq | hq
    · obtain ⟨hd9, hv_, hw_⟩ := hq
      clear hC hE hK hx hb hI hR hR2 nx hP hD hS hl hX
      exfalso
      omega
    · obtain ⟨hd9, hv_, hw_⟩ := hq
      rw [hw_] at hP hD
      rw [hv_]
      clear hv_ hw_
      dsimp only [Option.toList, List.cons_append, List.nil_append]
      refine lv_istore (lv' := [(6, .int (iv 0)), (5, .int (iv 2)), (4, .int (iv (7 * (k : Int)))), (0, .ref b), (1, .ref x), (2, .ref m0), (3, .ref o)]) (pc := 741) hx hb dL_law_741 hl (by decide) rfl (fun ls hl => ?_)
      refine lv_aload_n (pc := 743) hx hb dL_law_743 rfl (lv_at hl 5 rfl) ?_
      refine c_callV (pc := 744) (y := yX5_thrown) (As := []) (rest := []) hC hE hP hD hS hl.1 (c_m_thrown l ε m0 ad (va_up n 5 2) G ([(o, eJ ε 1 g)] ++ va_pl L2 f2)) m_3_8 m_3_9 m_3_10 m_0_5 m_3_11 wM_o rfl hd_yX5_thrown rfl ⟨⟨by decide, by decide⟩, (by show 40 + 20 * k + 2 + 0 + 0 ≤ 601024; omega), (by show 5000 + 3400 * k + 12 + 0 + 0 ≤ 7293034; omega)⟩ (Nat.le_of_ble_eq_true rfl) rfl dL_law_744 kxN (fun v9 w9 H locs hq hP hD hS => ?_)
      rw [hq.2] at hP hD
      rw [hq.1]
      dsimp only [Option.toList, List.cons_append, List.nil_append]
      rw [show (va_up n 5 2) 5 = 2 from rfl]
      refine lv_iload (pc := 747) hx hb dL_law_747 (lv_at hl 1 rfl) ?_
      refine r_icmp_eq (pc := 749) (a := 2) (b := 2) hx hb dL_law_749 (tgt := 754) (by decide) ⟨by omega, by omega⟩ ⟨by omega, by omega⟩ (fun c_749 => ?_) (fun c_749 => ?_)
      · have c_749_ := c_749
        refine lv_iload (pc := 754) hx hb dL_law_754 (lv_at hl 1 rfl) ?_
        refine r_if_ne (pc := 756) (a := 2) hx hb dL_law_756 (tgt := 778) (by decide) ⟨by omega, by omega⟩ (fun c_756 => ?_) (fun c_756 => ?_)
        · have c_756_ := c_756
          refine lv_goto (pc := 778) (tgt := 1396) hx hb dL_law_778 (by decide) ?_
          refine W.widen (k := 40 + 20 * (k + 1)) (n := 5000 + 3400 * (k + 1)) (by show 40 + 20 * k + 2 + 0 + 0 ≤ _; omega) (by show 5000 + 3400 * k + 12 + 0 + 0 ≤ _; omega) ?_
          exact nx (va_up n 5 2) G g L2 f2 ρ2 _ _ _ ⟨INV.n5 hI, (show n 3 ≤ ((k + 1 : Nat) : Int) by omega), RX.num hR2 rfl rfl rfl rfl rfl⟩ hP hD hS (lv_sub hl [2, 3, 4, 5, 6] rfl)
        · exact absurd c_756 (by decide)
      · exact absurd c_749 (by decide)
    · obtain ⟨hd9, hv_, hw_⟩ := hq
      clear hC hE hK hx hb hI hR hR2 nx hP hD hS hl hX
      exfalso
      omega

set_option maxRecDepth 100000 in
set_option maxHeartbeats 4000000 in
theorem law_c9 {p : Program} {l : Launch} {e : Env} {s : State} {m : MethodId} {b N : Nat} {xs : Nat → Int32} {below : List Frame} {meth : Method} {c : Code} {ε : EV} {x m0 : Nat} {ad : Nat → Nat} {o : Nat} {Q : State → Prop} {k : Nat} (h0 : LCX p l s m b N xs meth c ε k) (nx : LAT p l e s m b below meth c ε x m0 ad o Q 1396 k (k + 1)) : LAT p l e s m b below meth c ε x m0 ad o Q 781 k k := by
  intro n G g L f ρ H locs ls hW hP hD hS hl
  obtain ⟨hI, h3, hR⟩ := hW
  obtain ⟨⟨nm9, tb9, hC⟩, hE, hst, hX, hbl, hbA, hN1, hN2⟩ := h0
  have hx := hC.1
  have hb := hC.2.1
  have hK := hE.K
  have hnb := hI.NB
  obtain ⟨i, hz_i⟩ : ∃ z : Int, z = ZZ xs (7 * (k : Int) + 1) := ⟨_, rfl⟩
  have ri : rg i := by rw [hz_i]; exact ZZ_rg _ _
  obtain ⟨x9, hz_x9⟩ : ∃ z : Int, z = ZZ xs (7 * (k : Int) + 2) := ⟨_, rfl⟩
  have rx9 : rg x9 := by rw [hz_x9]; exact ZZ_rg _ _
  obtain ⟨y9, hz_y9⟩ : ∃ z : Int, z = ZZ xs (7 * (k : Int) + 3) := ⟨_, rfl⟩
  have ry9 : rg y9 := by rw [hz_y9]; exact ZZ_rg _ _
  refine lv_aload_n (pc := 781) hx hb dL_law_781 rfl (lv_at hl 2 rfl) ?_
  refine lv_aload_n (pc := 782) hx hb dL_law_782 rfl (lv_at hl 1 rfl) ?_
  refine lv_iload (pc := 783) hx hb dL_law_783 (lv_at hl 0 rfl) ?_
  refine lv_iconst (pc := 785) (v := iv 1) hx hb dL_law_785 rfl ?_
  refine r_iadd (pc := 786) (a := 7 * (k : Int)) (b := 1) hx hb dL_law_786 ?_
  refine r_sld (pc := 787) (z := (7 * (k : Int)) + 1) (v := i) hC hX hbl hbA hS ⟨by omega, by omega, by omega⟩ hz_i dL_law_787 ?_
  refine lv_aload_n (pc := 788) hx hb dL_law_788 rfl (lv_at hl 1 rfl) ?_
  refine lv_iload (pc := 789) hx hb dL_law_789 (lv_at hl 0 rfl) ?_
  refine lv_iconst (pc := 791) (v := iv 2) hx hb dL_law_791 rfl ?_
  refine r_iadd (pc := 792) (a := 7 * (k : Int)) (b := 2) hx hb dL_law_792 ?_
  refine r_sld (pc := 793) (z := (7 * (k : Int)) + 2) (v := x9) hC hX hbl hbA hS ⟨by omega, by omega, by omega⟩ hz_x9 dL_law_793 ?_
  refine lv_aload_n (pc := 794) hx hb dL_law_794 rfl (lv_at hl 1 rfl) ?_
  refine lv_iload (pc := 795) hx hb dL_law_795 (lv_at hl 0 rfl) ?_
  refine lv_iconst (pc := 797) (v := iv 3) hx hb dL_law_797 rfl ?_
  refine r_iadd (pc := 798) (a := 7 * (k : Int)) (b := 3) hx hb dL_law_798 ?_
  refine r_sld (pc := 799) (z := (7 * (k : Int)) + 3) (v := y9) hC hX hbl hbA hS ⟨by omega, by omega, by omega⟩ hz_y9 dL_law_799 ?_
  refine lv_aload_n (pc := 800) hx hb dL_law_800 rfl (lv_at hl 4 rfl) ?_
  replace hP : WP ε ((wM ε m0 ad n G ++ [(o, eJ ε 1 g)]) ++ va_pl L f) H := by rw [List.append_assoc]; exact hP
  replace hD : WD ε ((wM ε m0 ad n G ++ [(o, eJ ε 1 g)]) ++ va_pl L f) := by rw [List.append_assoc]; exact hD
  refine c_callSW (pc := 801) (y := yL_sector) (hh := [(0, 12, 15, 24), (0, 12, 19, 13)]) (As := [.ref x, .int (iv i), .int (iv x9), .int (iv y9), .ref o]) (rest := []) hC hE hP hD hS hl.1 (c_L_sector l ε (wM ε m0 ad n G) o g L f ρ hst x n G hR hI i x9 y9 ri rx9 ry9) m_16_5 m_16_6 m_2_9 m_16_7 hd_yL_sector rfl ⟨⟨by decide, by decide⟩, (by show 40 + 20 * k + 3 ≤ 601024; omega), (by show 5000 + 3400 * k + 18 ≤ 7293034; omega)⟩ (Nat.le_of_ble_eq_true rfl) rfl dL_law_801 kxN (fun v9 w9 H locs hq hP hD hS => ?_)
  rcases hq with hq | hq | hq
  · obtain ⟨hc9, hv_, L2, f2, ρ2, hw_, hR2⟩ := hq
    rw [hw_, List.append_assoc] at hP hD
    rw [hv_]
    clear hv_ hw_
    dsimp only [Option.toList, List.cons_append, List.nil_append]
    refine lv_istore (lv' := [(5, .int (iv 0)), (4, .int (iv (7 * (k : Int)))), (0, .ref b), (1, .ref x), (2, .ref m0), (3, .ref o)]) (pc := 804) hx hb dL_law_804 hl (by decide) rfl (fun ls hl => ?_)
    refine lv_aload_n (pc := 806) hx hb dL_law_806 rfl (lv_at hl 4 rfl) ?_
    refine lv_aload_n (pc := 807) hx hb dL_law_807 rfl (lv_at hl 2 rfl) ?_
    refine lv_iload (pc := 808) hx hb dL_law_808 (lv_at hl 1 rfl) ?_
    refine lv_iconst (pc := 810) (v := iv 1) hx hb dL_law_810 rfl ?_
    refine r_iadd (pc := 811) (a := 7 * (k : Int)) (b := 1) hx hb dL_law_811 ?_
    refine r_sld (pc := 812) (z := (7 * (k : Int)) + 1) (v := i) hC hX hbl hbA hS ⟨by omega, by omega, by omega⟩ hz_i dL_law_812 ?_
    refine lv_aload_n (pc := 813) hx hb dL_law_813 rfl (lv_at hl 2 rfl) ?_
    refine lv_iload (pc := 814) hx hb dL_law_814 (lv_at hl 1 rfl) ?_
    refine lv_iconst (pc := 816) (v := iv 2) hx hb dL_law_816 rfl ?_
    refine r_iadd (pc := 817) (a := 7 * (k : Int)) (b := 2) hx hb dL_law_817 ?_
    refine r_sld (pc := 818) (z := (7 * (k : Int)) + 2) (v := x9) hC hX hbl hbA hS ⟨by omega, by omega, by omega⟩ hz_x9 dL_law_818 ?_
    refine lv_aload_n (pc := 819) hx hb dL_law_819 rfl (lv_at hl 2 rfl) ?_
    refine lv_iload (pc := 820) hx hb dL_law_820 (lv_at hl 1 rfl) ?_
    refine lv_iconst (pc := 822) (v := iv 3) hx hb dL_law_822 rfl ?_
    refine r_iadd (pc := 823) (a := 7 * (k : Int)) (b := 3) hx hb dL_law_823 ?_
    refine r_sld (pc := 824) (z := (7 * (k : Int)) + 3) (v := y9) hC hX hbl hbA hS ⟨by omega, by omega, by omega⟩ hz_y9 dL_law_824 ?_
    refine c_callV (pc := 825) (y := yX5_sector) (As := [.int (iv i), .int (iv x9), .int (iv y9)]) (rest := []) hC hE hP hD hS hl.1 (c_m_sector l ε m0 ad n G ([(o, eJ ε 1 (va_up g 0 (sectP (x9 - G 4 i.toNat) (y9 - G 5 i.toNat))))] ++ va_pl L2 f2) i x9 y9 ri rx9 ry9 hI.2.1 hI.2.2.1) m_16_15 m_16_16 m_16_17 m_0_5 m_16_18 wM_o rfl hd_yX5_sector rfl ⟨⟨by decide, by decide⟩, (by show 40 + 20 * k + 3 + 0 ≤ 601024; omega), (by show 5000 + 3400 * k + 18 + 0 ≤ 7293034; omega)⟩ (Nat.le_of_ble_eq_true rfl) rfl dL_law_825 kxN (fun v9 w9 H locs hq hP hD hS => ?_)
    rcases hq with hq | hq | hq
    · obtain ⟨hd9, hv_, hw_⟩ := hq
      clear hC hE hK hx hb hI hR hR2 nx hP hD hS hl hX
      exfalso
      omega
    · obtain ⟨hd9, hv_, hw_⟩ := hq
      clear hC hE hK hx hb hI hR hR2 nx hP hD hS hl hX
      exfalso
      omega
    · obtain ⟨hd9, hv_, hw_⟩ := hq
      rw [hw_] at hP hD
      rw [hv_]
      clear hv_ hw_
      dsimp only [Option.toList, List.cons_append, List.nil_append]
      have hsp := sectP_bd (x9 - G 4 i.toNat) (y9 - G 5 i.toNat)
      refine lv_istore (lv' := [(6, .int (iv (sectP (x9 - G 4 i.toNat) (y9 - G 5 i.toNat)))), (5, .int (iv 0)), (4, .int (iv (7 * (k : Int)))), (0, .ref b), (1, .ref x), (2, .ref m0), (3, .ref o)]) (pc := 828) hx hb dL_law_828 hl (by decide) rfl (fun ls hl => ?_)
      refine lv_aload_n (pc := 830) hx hb dL_law_830 rfl (lv_at hl 5 rfl) ?_
      refine c_callV (pc := 831) (y := yX5_thrown) (As := []) (rest := []) hC hE hP hD hS hl.1 (c_m_thrown l ε m0 ad (va_up n 5 0) G ([(o, eJ ε 1 (va_up g 0 (sectP (x9 - G 4 i.toNat) (y9 - G 5 i.toNat))))] ++ va_pl L2 f2)) m_3_8 m_3_9 m_3_10 m_0_5 m_3_11 wM_o rfl hd_yX5_thrown rfl ⟨⟨by decide, by decide⟩, (by show 40 + 20 * k + 3 + 0 + 0 ≤ 601024; omega), (by show 5000 + 3400 * k + 18 + 0 + 0 ≤ 7293034; omega)⟩ (Nat.le_of_ble_eq_true rfl) rfl dL_law_831 kxN (fun v9 w9 H locs hq hP hD hS => ?_)
      rw [hq.2] at hP hD
      rw [hq.1]
      dsimp only [Option.toList, List.cons_append, List.nil_append]
      rw [show (va_up n 5 0) 5 = 0 from rfl]
      refine lv_iload (pc := 834) hx hb dL_law_834 (lv_at hl 1 rfl) ?_
      refine r_icmp_eq (pc := 836) (a := 0) (b := 0) hx hb dL_law_836 (tgt := 841) (by decide) ⟨by omega, by omega⟩ ⟨by omega, by omega⟩ (fun c_836 => ?_) (fun c_836 => ?_)
      · have c_836_ := c_836
        refine lv_iload (pc := 841) hx hb dL_law_841 (lv_at hl 1 rfl) ?_
        refine r_if_ne (pc := 843) (a := 0) hx hb dL_law_843 (tgt := 858) (by decide) ⟨by omega, by omega⟩ (fun c_843 => ?_) (fun c_843 => ?_)
        · exact absurd c_843 (by decide)
        · have c_843_ := c_843
          refine lv_aload_n (pc := 846) hx hb dL_law_846 rfl (lv_at hl 6 rfl) ?_
          refine lv_iconst (pc := 847) (v := iv 0) hx hb dL_law_847 rfl ?_
          refine r_jald (pc := 848) (z := 0) hC hK hP wM_out ⟨by decide, by decide, by decide⟩ dL_law_848 ?_
          rw [show (va_up g 0 (sectP (x9 - G 4 i.toNat) (y9 - G 5 i.toNat))) (Int.toNat 0) = sectP (x9 - G 4 i.toNat) (y9 - G 5 i.toNat) from va_up_self _ _ _]
          refine lv_iload (pc := 849) hx hb dL_law_849 (lv_at hl 0 rfl) ?_
          refine lv_i2l (pc := 851) (v := jv (sectP (x9 - G 4 i.toNat) (y9 - G 5 i.toNat))) hx hb dL_law_851 (iv_long _ ⟨by omega, by omega⟩) ?_
          refine W.lcmp (pc := 852) (x := jv (sectP (x9 - G 4 i.toNat) (y9 - G 5 i.toNat))) (y := jv (sectP (x9 - G 4 i.toNat) (y9 - G 5 i.toNat))) hx hb dL_law_852 ?_
          rw [lg_cmp_jv ⟨by omega, by omega⟩ ⟨by omega, by omega⟩]
          have hcm_852 := cmpI_self (sectP (x9 - G 4 i.toNat) (y9 - G 5 i.toNat))
          refine r_if_eq (pc := 853) (a := cmpI (sectP (x9 - G 4 i.toNat) (y9 - G 5 i.toNat)) (sectP (x9 - G 4 i.toNat) (y9 - G 5 i.toNat))) hx hb dL_law_853 (tgt := 858) (by decide) ⟨by omega, by omega⟩ (fun c_853 => ?_) (fun c_853 => ?_)
          · have c_853_ := c_853
            refine lv_goto (pc := 858) (tgt := 1396) hx hb dL_law_858 (by decide) ?_
            refine W.widen (k := 40 + 20 * (k + 1)) (n := 5000 + 3400 * (k + 1)) (by show 40 + 20 * k + 3 + 0 + 0 ≤ _; omega) (by show 5000 + 3400 * k + 18 + 0 + 0 ≤ _; omega) ?_
            exact nx (va_up n 5 0) G (va_up g 0 (sectP (x9 - G 4 i.toNat) (y9 - G 5 i.toNat))) L2 f2 ρ2 _ _ _ ⟨INV.n5 hI, (show n 3 ≤ ((k + 1 : Nat) : Int) by omega), RX.num hR2 rfl rfl rfl rfl rfl⟩ hP hD hS (lv_sub hl [2, 3, 4, 5, 6] rfl)
          · have c_853_ := c_853
            exact absurd (cmpI_self _) c_853
      · exact absurd c_836 (by decide)
  · obtain ⟨hc9, hv_, L2, f2, ρ2, hw_, hR2⟩ := hq
    rw [hw_, List.append_assoc] at hP hD
    rw [hv_]
    clear hv_ hw_
    dsimp only [Option.toList, List.cons_append, List.nil_append]
    refine lv_istore (lv' := [(5, .int (iv 1)), (4, .int (iv (7 * (k : Int)))), (0, .ref b), (1, .ref x), (2, .ref m0), (3, .ref o)]) (pc := 804) hx hb dL_law_804 hl (by decide) rfl (fun ls hl => ?_)
    refine lv_aload_n (pc := 806) hx hb dL_law_806 rfl (lv_at hl 4 rfl) ?_
    refine lv_aload_n (pc := 807) hx hb dL_law_807 rfl (lv_at hl 2 rfl) ?_
    refine lv_iload (pc := 808) hx hb dL_law_808 (lv_at hl 1 rfl) ?_
    refine lv_iconst (pc := 810) (v := iv 1) hx hb dL_law_810 rfl ?_
    refine r_iadd (pc := 811) (a := 7 * (k : Int)) (b := 1) hx hb dL_law_811 ?_
    refine r_sld (pc := 812) (z := (7 * (k : Int)) + 1) (v := i) hC hX hbl hbA hS ⟨by omega, by omega, by omega⟩ hz_i dL_law_812 ?_
    refine lv_aload_n (pc := 813) hx hb dL_law_813 rfl (lv_at hl 2 rfl) ?_
    refine lv_iload (pc := 814) hx hb dL_law_814 (lv_at hl 1 rfl) ?_
    refine lv_iconst (pc := 816) (v := iv 2) hx hb dL_law_816 rfl ?_
    refine r_iadd (pc := 817) (a := 7 * (k : Int)) (b := 2) hx hb dL_law_817 ?_
    refine r_sld (pc := 818) (z := (7 * (k : Int)) + 2) (v := x9) hC hX hbl hbA hS ⟨by omega, by omega, by omega⟩ hz_x9 dL_law_818 ?_
    refine lv_aload_n (pc := 819) hx hb dL_law_819 rfl (lv_at hl 2 rfl) ?_
    refine lv_iload (pc := 820) hx hb dL_law_820 (lv_at hl 1 rfl) ?_
    refine lv_iconst (pc := 822) (v := iv 3) hx hb dL_law_822 rfl ?_
    refine r_iadd (pc := 823) (a := 7 * (k : Int)) (b := 3) hx hb dL_law_823 ?_
    refine r_sld (pc := 824) (z := (7 * (k : Int)) + 3) (v := y9) hC hX hbl hbA hS ⟨by omega, by omega, by omega⟩ hz_y9 dL_law_824 ?_
    refine c_callV (pc := 825) (y := yX5_sector) (As := [.int (iv i), .int (iv x9), .int (iv y9)]) (rest := []) hC hE hP hD hS hl.1 (c_m_sector l ε m0 ad n G ([(o, eJ ε 1 g)] ++ va_pl L2 f2) i x9 y9 ri rx9 ry9 hI.2.1 hI.2.2.1) m_16_15 m_16_16 m_16_17 m_0_5 m_16_18 wM_o rfl hd_yX5_sector rfl ⟨⟨by decide, by decide⟩, (by show 40 + 20 * k + 3 + 0 ≤ 601024; omega), (by show 5000 + 3400 * k + 18 + 0 ≤ 7293034; omega)⟩ (Nat.le_of_ble_eq_true rfl) rfl dL_law_825 kxN (fun v9 w9 H locs hq hP hD hS => ?_)
    rcases hq with hq | hq | hq
    · obtain ⟨hd9, hv_, hw_⟩ := hq
      rw [hw_] at hP hD
      rw [hv_]
      clear hv_ hw_
      dsimp only [Option.toList, List.cons_append, List.nil_append]
      refine lv_istore (lv' := [(6, .int (iv 0)), (5, .int (iv 1)), (4, .int (iv (7 * (k : Int)))), (0, .ref b), (1, .ref x), (2, .ref m0), (3, .ref o)]) (pc := 828) hx hb dL_law_828 hl (by decide) rfl (fun ls hl => ?_)
      refine lv_aload_n (pc := 830) hx hb dL_law_830 rfl (lv_at hl 5 rfl) ?_
      refine c_callV (pc := 831) (y := yX5_thrown) (As := []) (rest := []) hC hE hP hD hS hl.1 (c_m_thrown l ε m0 ad (va_up n 5 1) G ([(o, eJ ε 1 g)] ++ va_pl L2 f2)) m_3_8 m_3_9 m_3_10 m_0_5 m_3_11 wM_o rfl hd_yX5_thrown rfl ⟨⟨by decide, by decide⟩, (by show 40 + 20 * k + 3 + 0 + 0 ≤ 601024; omega), (by show 5000 + 3400 * k + 18 + 0 + 0 ≤ 7293034; omega)⟩ (Nat.le_of_ble_eq_true rfl) rfl dL_law_831 kxN (fun v9 w9 H locs hq hP hD hS => ?_)
      rw [hq.2] at hP hD
      rw [hq.1]
      dsimp only [Option.toList, List.cons_append, List.nil_append]
      rw [show (va_up n 5 1) 5 = 1 from rfl]
      refine lv_iload (pc := 834) hx hb dL_law_834 (lv_at hl 1 rfl) ?_
      refine r_icmp_eq (pc := 836) (a := 1) (b := 1) hx hb dL_law_836 (tgt := 841) (by decide) ⟨by omega, by omega⟩ ⟨by omega, by omega⟩ (fun c_836 => ?_) (fun c_836 => ?_)
      · have c_836_ := c_836
        refine lv_iload (pc := 841) hx hb dL_law_841 (lv_at hl 1 rfl) ?_
        refine r_if_ne (pc := 843) (a := 1) hx hb dL_law_843 (tgt := 858) (by decide) ⟨by omega, by omega⟩ (fun c_843 => ?_) (fun c_843 => ?_)
        · have c_843_ := c_843
          refine lv_goto (pc := 858) (tgt := 1396) hx hb dL_law_858 (by decide) ?_
          refine W.widen (k := 40 + 20 * (k + 1)) (n := 5000 + 3400 * (k + 1)) (by show 40 + 20 * k + 3 + 0 + 0 ≤ _; omega) (by show 5000 + 3400 * k + 18 + 0 + 0 ≤ _; omega) ?_
          exact nx (va_up n 5 1) G g L2 f2 ρ2 _ _ _ ⟨INV.n5 hI, (show n 3 ≤ ((k + 1 : Nat) : Int) by omega), RX.num hR2 rfl rfl rfl rfl rfl⟩ hP hD hS (lv_sub hl [2, 3, 4, 5, 6] rfl)
        · exact absurd c_843 (by decide)
      · exact absurd c_836 (by decide)
    · obtain ⟨hd9, hv_, hw_⟩ := hq
      clear hC hE hK hx hb hI hR hR2 nx hP hD hS hl hX
      exfalso
      omega
    · obtain ⟨hd9, hv_, hw_⟩ := hq
      clear hC hE hK hx hb hI hR hR2 nx hP hD hS hl hX
      exfalso
      omega
  · obtain ⟨hc9, hv_, L2, f2, ρ2, hw_, hR2⟩ := hq
    rw [hw_, List.append_assoc] at hP hD
    rw [hv_]
    clear hv_ hw_
    dsimp only [Option.toList, List.cons_append, List.nil_append]
    refine lv_istore (lv' := [(5, .int (iv 2)), (4, .int (iv (7 * (k : Int)))), (0, .ref b), (1, .ref x), (2, .ref m0), (3, .ref o)]) (pc := 804) hx hb dL_law_804 hl (by decide) rfl (fun ls hl => ?_)
    refine lv_aload_n (pc := 806) hx hb dL_law_806 rfl (lv_at hl 4 rfl) ?_
    refine lv_aload_n (pc := 807) hx hb dL_law_807 rfl (lv_at hl 2 rfl) ?_
    refine lv_iload (pc := 808) hx hb dL_law_808 (lv_at hl 1 rfl) ?_
    refine lv_iconst (pc := 810) (v := iv 1) hx hb dL_law_810 rfl ?_
    refine r_iadd (pc := 811) (a := 7 * (k : Int)) (b := 1) hx hb dL_law_811 ?_
    refine r_sld (pc := 812) (z := (7 * (k : Int)) + 1) (v := i) hC hX hbl hbA hS ⟨by omega, by omega, by omega⟩ hz_i dL_law_812 ?_
    refine lv_aload_n (pc := 813) hx hb dL_law_813 rfl (lv_at hl 2 rfl) ?_
    refine lv_iload (pc := 814) hx hb dL_law_814 (lv_at hl 1 rfl) ?_
    refine lv_iconst (pc := 816) (v := iv 2) hx hb dL_law_816 rfl ?_
    refine r_iadd (pc := 817) (a := 7 * (k : Int)) (b := 2) hx hb dL_law_817 ?_
    refine r_sld (pc := 818) (z := (7 * (k : Int)) + 2) (v := x9) hC hX hbl hbA hS ⟨by omega, by omega, by omega⟩ hz_x9 dL_law_818 ?_
    refine lv_aload_n (pc := 819) hx hb dL_law_819 rfl (lv_at hl 2 rfl) ?_
    refine lv_iload (pc := 820) hx hb dL_law_820 (lv_at hl 1 rfl) ?_
    refine lv_iconst (pc := 822) (v := iv 3) hx hb dL_law_822 rfl ?_
    refine r_iadd (pc := 823) (a := 7 * (k : Int)) (b := 3) hx hb dL_law_823 ?_
    refine r_sld (pc := 824) (z := (7 * (k : Int)) + 3) (v := y9) hC hX hbl hbA hS ⟨by omega, by omega, by omega⟩ hz_y9 dL_law_824 ?_
    refine c_callV (pc := 825) (y := yX5_sector) (As := [.int (iv i), .int (iv x9), .int (iv y9)]) (rest := []) hC hE hP hD hS hl.1 (c_m_sector l ε m0 ad n G ([(o, eJ ε 1 g)] ++ va_pl L2 f2) i x9 y9 ri rx9 ry9 hI.2.1 hI.2.2.1) m_16_15 m_16_16 m_16_17 m_0_5 m_16_18 wM_o rfl hd_yX5_sector rfl ⟨⟨by decide, by decide⟩, (by show 40 + 20 * k + 3 + 0 ≤ 601024; omega), (by show 5000 + 3400 * k + 18 + 0 ≤ 7293034; omega)⟩ (Nat.le_of_ble_eq_true rfl) rfl dL_law_825 kxN (fun v9 w9 H locs hq hP hD hS => ?_)
    rcases hq with hq | hq | hq
    · obtain ⟨hd9, hv_, hw_⟩ := hq
      clear hC hE hK hx hb hI hR hR2 nx hP hD hS hl hX
      exfalso
      omega
    · obtain ⟨hd9, hv_, hw_⟩ := hq
      rw [hw_] at hP hD
      rw [hv_]
      clear hv_ hw_
      dsimp only [Option.toList, List.cons_append, List.nil_append]
      refine lv_istore (lv' := [(6, .int (iv 0)), (5, .int (iv 2)), (4, .int (iv (7 * (k : Int)))), (0, .ref b), (1, .ref x), (2, .ref m0), (3, .ref o)]) (pc := 828) hx hb dL_law_828 hl (by decide) rfl (fun ls hl => ?_)
      refine lv_aload_n (pc := 830) hx hb dL_law_830 rfl (lv_at hl 5 rfl) ?_
      refine c_callV (pc := 831) (y := yX5_thrown) (As := []) (rest := []) hC hE hP hD hS hl.1 (c_m_thrown l ε m0 ad (va_up n 5 2) G ([(o, eJ ε 1 g)] ++ va_pl L2 f2)) m_3_8 m_3_9 m_3_10 m_0_5 m_3_11 wM_o rfl hd_yX5_thrown rfl ⟨⟨by decide, by decide⟩, (by show 40 + 20 * k + 3 + 0 + 0 ≤ 601024; omega), (by show 5000 + 3400 * k + 18 + 0 + 0 ≤ 7293034; omega)⟩ (Nat.le_of_ble_eq_true rfl) rfl dL_law_831 kxN (fun v9 w9 H locs hq hP hD hS => ?_)
      rw [hq.2] at hP hD
      rw [hq.1]
      dsimp only [Option.toList, List.cons_append, List.nil_append]
      rw [show (va_up n 5 2) 5 = 2 from rfl]
      refine lv_iload (pc := 834) hx hb dL_law_834 (lv_at hl 1 rfl) ?_
      refine r_icmp_eq (pc := 836) (a := 2) (b := 2) hx hb dL_law_836 (tgt := 841) (by decide) ⟨by omega, by omega⟩ ⟨by omega, by omega⟩ (fun c_836 => ?_) (fun c_836 => ?_)
      · have c_836_ := c_836
        refine lv_iload (pc := 841) hx hb dL_law_841 (lv_at hl 1 rfl) ?_
        refine r_if_ne (pc := 843) (a := 2) hx hb dL_law_843 (tgt := 858) (by decide) ⟨by omega, by omega⟩ (fun c_843 => ?_) (fun c_843 => ?_)
        · have c_843_ := c_843
          refine lv_goto (pc := 858) (tgt := 1396) hx hb dL_law_858 (by decide) ?_
          refine W.widen (k := 40 + 20 * (k + 1)) (n := 5000 + 3400 * (k + 1)) (by show 40 + 20 * k + 3 + 0 + 0 ≤ _; omega) (by show 5000 + 3400 * k + 18 + 0 + 0 ≤ _; omega) ?_
          exact nx (va_up n 5 2) G g L2 f2 ρ2 _ _ _ ⟨INV.n5 hI, (show n 3 ≤ ((k + 1 : Nat) : Int) by omega), RX.num hR2 rfl rfl rfl rfl rfl⟩ hP hD hS (lv_sub hl [2, 3, 4, 5, 6] rfl)
        · exact absurd c_843 (by decide)
      · exact absurd c_836 (by decide)
    · obtain ⟨hd9, hv_, hw_⟩ := hq
      clear hC hE hK hx hb hI hR hR2 nx hP hD hS hl hX
      exfalso
      omega

set_option maxRecDepth 100000 in
set_option maxHeartbeats 4000000 in
theorem law_c10 {p : Program} {l : Launch} {e : Env} {s : State} {m : MethodId} {b N : Nat} {xs : Nat → Int32} {below : List Frame} {meth : Method} {c : Code} {ε : EV} {x m0 : Nat} {ad : Nat → Nat} {o : Nat} {Q : State → Prop} {k : Nat} (h0 : LCX p l s m b N xs meth c ε k) (nx : LAT p l e s m b below meth c ε x m0 ad o Q 1396 k (k + 1)) : LAT p l e s m b below meth c ε x m0 ad o Q 861 k k := by
  intro n G g L f ρ H locs ls hW hP hD hS hl
  obtain ⟨hI, h3, hR⟩ := hW
  obtain ⟨⟨nm9, tb9, hC⟩, hE, hst, hX, hbl, hbA, hN1, hN2⟩ := h0
  have hx := hC.1
  have hb := hC.2.1
  have hK := hE.K
  have hnb := hI.NB
  obtain ⟨i, hz_i⟩ : ∃ z : Int, z = ZZ xs (7 * (k : Int) + 1) := ⟨_, rfl⟩
  have ri : rg i := by rw [hz_i]; exact ZZ_rg _ _
  obtain ⟨x9, hz_x9⟩ : ∃ z : Int, z = ZZ xs (7 * (k : Int) + 2) := ⟨_, rfl⟩
  have rx9 : rg x9 := by rw [hz_x9]; exact ZZ_rg _ _
  obtain ⟨y9, hz_y9⟩ : ∃ z : Int, z = ZZ xs (7 * (k : Int) + 3) := ⟨_, rfl⟩
  have ry9 : rg y9 := by rw [hz_y9]; exact ZZ_rg _ _
  refine lv_aload_n (pc := 861) hx hb dL_law_861 rfl (lv_at hl 2 rfl) ?_
  refine lv_aload_n (pc := 862) hx hb dL_law_862 rfl (lv_at hl 1 rfl) ?_
  refine lv_iload (pc := 863) hx hb dL_law_863 (lv_at hl 0 rfl) ?_
  refine lv_iconst (pc := 865) (v := iv 1) hx hb dL_law_865 rfl ?_
  refine r_iadd (pc := 866) (a := 7 * (k : Int)) (b := 1) hx hb dL_law_866 ?_
  refine r_sld (pc := 867) (z := (7 * (k : Int)) + 1) (v := i) hC hX hbl hbA hS ⟨by omega, by omega, by omega⟩ hz_i dL_law_867 ?_
  refine lv_aload_n (pc := 868) hx hb dL_law_868 rfl (lv_at hl 1 rfl) ?_
  refine lv_iload (pc := 869) hx hb dL_law_869 (lv_at hl 0 rfl) ?_
  refine lv_iconst (pc := 871) (v := iv 2) hx hb dL_law_871 rfl ?_
  refine r_iadd (pc := 872) (a := 7 * (k : Int)) (b := 2) hx hb dL_law_872 ?_
  refine r_sld (pc := 873) (z := (7 * (k : Int)) + 2) (v := x9) hC hX hbl hbA hS ⟨by omega, by omega, by omega⟩ hz_x9 dL_law_873 ?_
  refine lv_aload_n (pc := 874) hx hb dL_law_874 rfl (lv_at hl 1 rfl) ?_
  refine lv_iload (pc := 875) hx hb dL_law_875 (lv_at hl 0 rfl) ?_
  refine lv_iconst (pc := 877) (v := iv 3) hx hb dL_law_877 rfl ?_
  refine r_iadd (pc := 878) (a := 7 * (k : Int)) (b := 3) hx hb dL_law_878 ?_
  refine r_sld (pc := 879) (z := (7 * (k : Int)) + 3) (v := y9) hC hX hbl hbA hS ⟨by omega, by omega, by omega⟩ hz_y9 dL_law_879 ?_
  refine lv_aload_n (pc := 880) hx hb dL_law_880 rfl (lv_at hl 4 rfl) ?_
  replace hP : WP ε ((wM ε m0 ad n G ++ [(o, eJ ε 1 g)]) ++ va_pl L f) H := by rw [List.append_assoc]; exact hP
  replace hD : WD ε ((wM ε m0 ad n G ++ [(o, eJ ε 1 g)]) ++ va_pl L f) := by rw [List.append_assoc]; exact hD
  refine c_callSW (pc := 881) (y := yL_isSeen) (hh := [(0, 19, 22, 24), (0, 19, 26, 13)]) (As := [.ref x, .int (iv i), .int (iv x9), .int (iv y9), .ref o]) (rest := []) hC hE hP hD hS hl.1 (c_L_isSeen l ε (wM ε m0 ad n G) o g L f ρ hst x n G hR hI i x9 y9 ri rx9 ry9) m_17_2 m_17_3 m_2_9 m_17_4 hd_yL_isSeen rfl ⟨⟨by decide, by decide⟩, (by show 40 + 20 * k + 3 ≤ 601024; omega), (by show 5000 + 3400 * k + 18 ≤ 7293034; omega)⟩ (Nat.le_of_ble_eq_true rfl) rfl dL_law_881 kxN (fun v9 w9 H locs hq hP hD hS => ?_)
  rcases hq with hq | hq | hq
  · obtain ⟨hc9, hv_, L2, f2, ρ2, hw_, hR2⟩ := hq
    rw [hw_, List.append_assoc] at hP hD
    rw [hv_]
    clear hv_ hw_
    dsimp only [Option.toList, List.cons_append, List.nil_append]
    refine lv_istore (lv' := [(5, .int (iv 0)), (4, .int (iv (7 * (k : Int)))), (0, .ref b), (1, .ref x), (2, .ref m0), (3, .ref o)]) (pc := 884) hx hb dL_law_884 hl (by decide) rfl (fun ls hl => ?_)
    refine lv_aload_n (pc := 886) hx hb dL_law_886 rfl (lv_at hl 4 rfl) ?_
    refine lv_aload_n (pc := 887) hx hb dL_law_887 rfl (lv_at hl 2 rfl) ?_
    refine lv_iload (pc := 888) hx hb dL_law_888 (lv_at hl 1 rfl) ?_
    refine lv_iconst (pc := 890) (v := iv 1) hx hb dL_law_890 rfl ?_
    refine r_iadd (pc := 891) (a := 7 * (k : Int)) (b := 1) hx hb dL_law_891 ?_
    refine r_sld (pc := 892) (z := (7 * (k : Int)) + 1) (v := i) hC hX hbl hbA hS ⟨by omega, by omega, by omega⟩ hz_i dL_law_892 ?_
    refine lv_aload_n (pc := 893) hx hb dL_law_893 rfl (lv_at hl 2 rfl) ?_
    refine lv_iload (pc := 894) hx hb dL_law_894 (lv_at hl 1 rfl) ?_
    refine lv_iconst (pc := 896) (v := iv 2) hx hb dL_law_896 rfl ?_
    refine r_iadd (pc := 897) (a := 7 * (k : Int)) (b := 2) hx hb dL_law_897 ?_
    refine r_sld (pc := 898) (z := (7 * (k : Int)) + 2) (v := x9) hC hX hbl hbA hS ⟨by omega, by omega, by omega⟩ hz_x9 dL_law_898 ?_
    refine lv_aload_n (pc := 899) hx hb dL_law_899 rfl (lv_at hl 2 rfl) ?_
    refine lv_iload (pc := 900) hx hb dL_law_900 (lv_at hl 1 rfl) ?_
    refine lv_iconst (pc := 902) (v := iv 3) hx hb dL_law_902 rfl ?_
    refine r_iadd (pc := 903) (a := 7 * (k : Int)) (b := 3) hx hb dL_law_903 ?_
    refine r_sld (pc := 904) (z := (7 * (k : Int)) + 3) (v := y9) hC hX hbl hbA hS ⟨by omega, by omega, by omega⟩ hz_y9 dL_law_904 ?_
    refine c_callV (pc := 905) (y := yX5_isSeen) (As := [.int (iv i), .int (iv x9), .int (iv y9)]) (rest := []) hC hE hP hD hS hl.1 (c_m_isSeen l ε m0 ad n G ([(o, eJ ε 1 (va_up g 0 (bz (tb (SE1 G i x9 y9)))))] ++ va_pl L2 f2) i x9 y9 ri rx9 ry9 hI.2.1 hI.2.2.1) m_17_13 m_17_14 m_17_15 m_0_5 m_17_16 wM_o rfl hd_yX5_isSeen rfl ⟨⟨by decide, by decide⟩, (by show 40 + 20 * k + 3 + 0 ≤ 601024; omega), (by show 5000 + 3400 * k + 18 + 0 ≤ 7293034; omega)⟩ (Nat.le_of_ble_eq_true rfl) rfl dL_law_905 kxN (fun v9 w9 H locs hq hP hD hS => ?_)
    rcases hq with hq | hq | hq
    · obtain ⟨hd9, hv_, hw_⟩ := hq
      clear hC hE hK hx hb hI hR hR2 nx hP hD hS hl hX
      exfalso
      omega
    · obtain ⟨hd9, hv_, hw_⟩ := hq
      clear hC hE hK hx hb hI hR hR2 nx hP hD hS hl hX
      exfalso
      omega
    · obtain ⟨hd9, hv_, hw_⟩ := hq
      rw [hw_] at hP hD
      rw [hv_]
      clear hv_ hw_
      dsimp only [Option.toList, List.cons_append, List.nil_append]
      rw [show tb (SEES G i x9 y9) = tb (SE1 G i x9 y9) from congrArg tb (propext (SE1_iff hc9.2).symm)]
      refine lv_istore (lv' := [(6, .int (iv (bz (tb (SE1 G i x9 y9))))), (5, .int (iv 0)), (4, .int (iv (7 * (k : Int)))), (0, .ref b), (1, .ref x), (2, .ref m0), (3, .ref o)]) (pc := 908) hx hb dL_law_908 hl (by decide) rfl (fun ls hl => ?_)
      refine lv_aload_n (pc := 910) hx hb dL_law_910 rfl (lv_at hl 5 rfl) ?_
      refine c_callV (pc := 911) (y := yX5_thrown) (As := []) (rest := []) hC hE hP hD hS hl.1 (c_m_thrown l ε m0 ad (va_up n 5 0) G ([(o, eJ ε 1 (va_up g 0 (bz (tb (SE1 G i x9 y9)))))] ++ va_pl L2 f2)) m_3_8 m_3_9 m_3_10 m_0_5 m_3_11 wM_o rfl hd_yX5_thrown rfl ⟨⟨by decide, by decide⟩, (by show 40 + 20 * k + 3 + 0 + 0 ≤ 601024; omega), (by show 5000 + 3400 * k + 18 + 0 + 0 ≤ 7293034; omega)⟩ (Nat.le_of_ble_eq_true rfl) rfl dL_law_911 kxN (fun v9 w9 H locs hq hP hD hS => ?_)
      rw [hq.2] at hP hD
      rw [hq.1]
      dsimp only [Option.toList, List.cons_append, List.nil_append]
      rw [show (va_up n 5 0) 5 = 0 from rfl]
      refine lv_iload (pc := 914) hx hb dL_law_914 (lv_at hl 1 rfl) ?_
      refine r_icmp_eq (pc := 916) (a := 0) (b := 0) hx hb dL_law_916 (tgt := 921) (by decide) ⟨by omega, by omega⟩ ⟨by omega, by omega⟩ (fun c_916 => ?_) (fun c_916 => ?_)
      · have c_916_ := c_916
        refine lv_iload (pc := 921) hx hb dL_law_921 (lv_at hl 1 rfl) ?_
        refine r_if_ne (pc := 923) (a := 0) hx hb dL_law_923 (tgt := 945) (by decide) ⟨by omega, by omega⟩ (fun c_923 => ?_) (fun c_923 => ?_)
        · exact absurd c_923 (by decide)
        · have c_923_ := c_923
          refine lv_aload_n (pc := 926) hx hb dL_law_926 rfl (lv_at hl 6 rfl) ?_
          refine lv_iconst (pc := 927) (v := iv 0) hx hb dL_law_927 rfl ?_
          refine r_jald (pc := 928) (z := 0) hC hK hP wM_out ⟨by decide, by decide, by decide⟩ dL_law_928 ?_
          rw [show (va_up g 0 (bz (tb (SE1 G i x9 y9)))) (Int.toNat 0) = bz (tb (SE1 G i x9 y9)) from va_up_self _ _ _]
          refine lv_iload (pc := 929) hx hb dL_law_929 (lv_at hl 0 rfl) ?_
          refine r_if_b0 (pc := 931) (b := tb (SE1 G i x9 y9)) hx hb dL_law_931 (tgt := 938) (by decide)  (fun c_931 => ?_) (fun c_931 => ?_)
          · replace c_931 := tb_no c_931
            refine lv_lconst (pc := 938) (v := jv 0) hx hb dL_law_938 (by decide) ?_
            rw [show bz (tb (SE1 G i x9 y9)) = 0 by rw [tb_f c_931]; rfl]
            refine W.lcmp (pc := 939) (x := jv 0) (y := jv 0) hx hb dL_law_939 ?_
            rw [lg_cmp_jv ⟨by omega, by omega⟩ ⟨by omega, by omega⟩]
            have hcm_939 := cmpI_self 0
            refine r_if_eq (pc := 940) (a := cmpI 0 0) hx hb dL_law_940 (tgt := 945) (by decide) ⟨by omega, by omega⟩ (fun c_940 => ?_) (fun c_940 => ?_)
            · have c_940_ := c_940
              refine lv_goto (pc := 945) (tgt := 1396) hx hb dL_law_945 (by decide) ?_
              refine W.widen (k := 40 + 20 * (k + 1)) (n := 5000 + 3400 * (k + 1)) (by show 40 + 20 * k + 3 + 0 + 0 ≤ _; omega) (by show 5000 + 3400 * k + 18 + 0 + 0 ≤ _; omega) ?_
              exact nx (va_up n 5 0) G (va_up g 0 (bz (tb (SE1 G i x9 y9)))) L2 f2 ρ2 _ _ _ ⟨INV.n5 hI, (show n 3 ≤ ((k + 1 : Nat) : Int) by omega), RX.num hR2 rfl rfl rfl rfl rfl⟩ hP hD hS (lv_sub hl [2, 3, 4, 5, 6] rfl)
            · have c_940_ := c_940
              exact absurd (cmpI_self _) c_940
          · replace c_931 := tb_iff.mp c_931
            refine lv_lconst (pc := 934) (v := jv 1) hx hb dL_law_934 (by decide) ?_
            refine lv_goto (pc := 935) (tgt := 939) hx hb dL_law_935 (by decide) ?_
            rw [show bz (tb (SE1 G i x9 y9)) = 1 by rw [tb_t c_931]; rfl]
            refine W.lcmp (pc := 939) (x := jv 1) (y := jv 1) hx hb dL_law_939 ?_
            rw [lg_cmp_jv ⟨by omega, by omega⟩ ⟨by omega, by omega⟩]
            have hcm_939 := cmpI_self 1
            refine r_if_eq (pc := 940) (a := cmpI 1 1) hx hb dL_law_940 (tgt := 945) (by decide) ⟨by omega, by omega⟩ (fun c_940 => ?_) (fun c_940 => ?_)
            · have c_940_ := c_940
              refine lv_goto (pc := 945) (tgt := 1396) hx hb dL_law_945 (by decide) ?_
              refine W.widen (k := 40 + 20 * (k + 1)) (n := 5000 + 3400 * (k + 1)) (by show 40 + 20 * k + 3 + 0 + 0 ≤ _; omega) (by show 5000 + 3400 * k + 18 + 0 + 0 ≤ _; omega) ?_
              exact nx (va_up n 5 0) G (va_up g 0 (bz (tb (SE1 G i x9 y9)))) L2 f2 ρ2 _ _ _ ⟨INV.n5 hI, (show n 3 ≤ ((k + 1 : Nat) : Int) by omega), RX.num hR2 rfl rfl rfl rfl rfl⟩ hP hD hS (lv_sub hl [2, 3, 4, 5, 6] rfl)
            · have c_940_ := c_940
              exact absurd (cmpI_self _) c_940
      · exact absurd c_916 (by decide)
  · obtain ⟨hc9, hv_, L2, f2, ρ2, hw_, hR2⟩ := hq
    rw [hw_, List.append_assoc] at hP hD
    rw [hv_]
    clear hv_ hw_
    dsimp only [Option.toList, List.cons_append, List.nil_append]
    refine lv_istore (lv' := [(5, .int (iv 1)), (4, .int (iv (7 * (k : Int)))), (0, .ref b), (1, .ref x), (2, .ref m0), (3, .ref o)]) (pc := 884) hx hb dL_law_884 hl (by decide) rfl (fun ls hl => ?_)
    refine lv_aload_n (pc := 886) hx hb dL_law_886 rfl (lv_at hl 4 rfl) ?_
    refine lv_aload_n (pc := 887) hx hb dL_law_887 rfl (lv_at hl 2 rfl) ?_
    refine lv_iload (pc := 888) hx hb dL_law_888 (lv_at hl 1 rfl) ?_
    refine lv_iconst (pc := 890) (v := iv 1) hx hb dL_law_890 rfl ?_
    refine r_iadd (pc := 891) (a := 7 * (k : Int)) (b := 1) hx hb dL_law_891 ?_
    refine r_sld (pc := 892) (z := (7 * (k : Int)) + 1) (v := i) hC hX hbl hbA hS ⟨by omega, by omega, by omega⟩ hz_i dL_law_892 ?_
    refine lv_aload_n (pc := 893) hx hb dL_law_893 rfl (lv_at hl 2 rfl) ?_
    refine lv_iload (pc := 894) hx hb dL_law_894 (lv_at hl 1 rfl) ?_
    refine lv_iconst (pc := 896) (v := iv 2) hx hb dL_law_896 rfl ?_
    refine r_iadd (pc := 897) (a := 7 * (k : Int)) (b := 2) hx hb dL_law_897 ?_
    refine r_sld (pc := 898) (z := (7 * (k : Int)) + 2) (v := x9) hC hX hbl hbA hS ⟨by omega, by omega, by omega⟩ hz_x9 dL_law_898 ?_
    refine lv_aload_n (pc := 899) hx hb dL_law_899 rfl (lv_at hl 2 rfl) ?_
    refine lv_iload (pc := 900) hx hb dL_law_900 (lv_at hl 1 rfl) ?_
    refine lv_iconst (pc := 902) (v := iv 3) hx hb dL_law_902 rfl ?_
    refine r_iadd (pc := 903) (a := 7 * (k : Int)) (b := 3) hx hb dL_law_903 ?_
    refine r_sld (pc := 904) (z := (7 * (k : Int)) + 3) (v := y9) hC hX hbl hbA hS ⟨by omega, by omega, by omega⟩ hz_y9 dL_law_904 ?_
    refine c_callV (pc := 905) (y := yX5_isSeen) (As := [.int (iv i), .int (iv x9), .int (iv y9)]) (rest := []) hC hE hP hD hS hl.1 (c_m_isSeen l ε m0 ad n G ([(o, eJ ε 1 g)] ++ va_pl L2 f2) i x9 y9 ri rx9 ry9 hI.2.1 hI.2.2.1) m_17_13 m_17_14 m_17_15 m_0_5 m_17_16 wM_o rfl hd_yX5_isSeen rfl ⟨⟨by decide, by decide⟩, (by show 40 + 20 * k + 3 + 0 ≤ 601024; omega), (by show 5000 + 3400 * k + 18 + 0 ≤ 7293034; omega)⟩ (Nat.le_of_ble_eq_true rfl) rfl dL_law_905 kxN (fun v9 w9 H locs hq hP hD hS => ?_)
    rcases hq with hq | hq | hq
    · obtain ⟨hd9, hv_, hw_⟩ := hq
      rw [hw_] at hP hD
      rw [hv_]
      clear hv_ hw_
      dsimp only [Option.toList, List.cons_append, List.nil_append]
      refine lv_istore (lv' := [(6, .int (iv 0)), (5, .int (iv 1)), (4, .int (iv (7 * (k : Int)))), (0, .ref b), (1, .ref x), (2, .ref m0), (3, .ref o)]) (pc := 908) hx hb dL_law_908 hl (by decide) rfl (fun ls hl => ?_)
      refine lv_aload_n (pc := 910) hx hb dL_law_910 rfl (lv_at hl 5 rfl) ?_
      refine c_callV (pc := 911) (y := yX5_thrown) (As := []) (rest := []) hC hE hP hD hS hl.1 (c_m_thrown l ε m0 ad (va_up n 5 1) G ([(o, eJ ε 1 g)] ++ va_pl L2 f2)) m_3_8 m_3_9 m_3_10 m_0_5 m_3_11 wM_o rfl hd_yX5_thrown rfl ⟨⟨by decide, by decide⟩, (by show 40 + 20 * k + 3 + 0 + 0 ≤ 601024; omega), (by show 5000 + 3400 * k + 18 + 0 + 0 ≤ 7293034; omega)⟩ (Nat.le_of_ble_eq_true rfl) rfl dL_law_911 kxN (fun v9 w9 H locs hq hP hD hS => ?_)
      rw [hq.2] at hP hD
      rw [hq.1]
      dsimp only [Option.toList, List.cons_append, List.nil_append]
      rw [show (va_up n 5 1) 5 = 1 from rfl]
      refine lv_iload (pc := 914) hx hb dL_law_914 (lv_at hl 1 rfl) ?_
      refine r_icmp_eq (pc := 916) (a := 1) (b := 1) hx hb dL_law_916 (tgt := 921) (by decide) ⟨by omega, by omega⟩ ⟨by omega, by omega⟩ (fun c_916 => ?_) (fun c_916 => ?_)
      · have c_916_ := c_916
        refine lv_iload (pc := 921) hx hb dL_law_921 (lv_at hl 1 rfl) ?_
        refine r_if_ne (pc := 923) (a := 1) hx hb dL_law_923 (tgt := 945) (by decide) ⟨by omega, by omega⟩ (fun c_923 => ?_) (fun c_923 => ?_)
        · have c_923_ := c_923
          refine lv_goto (pc := 945) (tgt := 1396) hx hb dL_law_945 (by decide) ?_
          refine W.widen (k := 40 + 20 * (k + 1)) (n := 5000 + 3400 * (k + 1)) (by show 40 + 20 * k + 3 + 0 + 0 ≤ _; omega) (by show 5000 + 3400 * k + 18 + 0 + 0 ≤ _; omega) ?_
          exact nx (va_up n 5 1) G g L2 f2 ρ2 _ _ _ ⟨INV.n5 hI, (show n 3 ≤ ((k + 1 : Nat) : Int) by omega), RX.num hR2 rfl rfl rfl rfl rfl⟩ hP hD hS (lv_sub hl [2, 3, 4, 5, 6] rfl)
        · exact absurd c_923 (by decide)
      · exact absurd c_916 (by decide)
    · obtain ⟨hd9, hv_, hw_⟩ := hq
      clear hC hE hK hx hb hI hR hR2 nx hP hD hS hl hX
      exfalso
      omega
    · obtain ⟨hd9, hv_, hw_⟩ := hq
      clear hC hE hK hx hb hI hR hR2 nx hP hD hS hl hX
      exfalso
      omega
  · obtain ⟨hc9, hv_, L2, f2, ρ2, hw_, hR2⟩ := hq
    rw [hw_, List.append_assoc] at hP hD
    rw [hv_]
    clear hv_ hw_
    dsimp only [Option.toList, List.cons_append, List.nil_append]
    refine lv_istore (lv' := [(5, .int (iv 2)), (4, .int (iv (7 * (k : Int)))), (0, .ref b), (1, .ref x), (2, .ref m0), (3, .ref o)]) (pc := 884) hx hb dL_law_884 hl (by decide) rfl (fun ls hl => ?_)
    refine lv_aload_n (pc := 886) hx hb dL_law_886 rfl (lv_at hl 4 rfl) ?_
    refine lv_aload_n (pc := 887) hx hb dL_law_887 rfl (lv_at hl 2 rfl) ?_
    refine lv_iload (pc := 888) hx hb dL_law_888 (lv_at hl 1 rfl) ?_
    refine lv_iconst (pc := 890) (v := iv 1) hx hb dL_law_890 rfl ?_
    refine r_iadd (pc := 891) (a := 7 * (k : Int)) (b := 1) hx hb dL_law_891 ?_
    refine r_sld (pc := 892) (z := (7 * (k : Int)) + 1) (v := i) hC hX hbl hbA hS ⟨by omega, by omega, by omega⟩ hz_i dL_law_892 ?_
    refine lv_aload_n (pc := 893) hx hb dL_law_893 rfl (lv_at hl 2 rfl) ?_
    refine lv_iload (pc := 894) hx hb dL_law_894 (lv_at hl 1 rfl) ?_
    refine lv_iconst (pc := 896) (v := iv 2) hx hb dL_law_896 rfl ?_
    refine r_iadd (pc := 897) (a := 7 * (k : Int)) (b := 2) hx hb dL_law_897 ?_
    refine r_sld (pc := 898) (z := (7 * (k : Int)) + 2) (v := x9) hC hX hbl hbA hS ⟨by omega, by omega, by omega⟩ hz_x9 dL_law_898 ?_
    refine lv_aload_n (pc := 899) hx hb dL_law_899 rfl (lv_at hl 2 rfl) ?_
    refine lv_iload (pc := 900) hx hb dL_law_900 (lv_at hl 1 rfl) ?_
    refine lv_iconst (pc := 902) (v := iv 3) hx hb dL_law_902 rfl ?_
    refine r_iadd (pc := 903) (a := 7 * (k : Int)) (b := 3) hx hb dL_law_903 ?_
    refine r_sld (pc := 904) (z := (7 * (k : Int)) + 3) (v := y9) hC hX hbl hbA hS ⟨by omega, by omega, by omega⟩ hz_y9 dL_law_904 ?_
    refine c_callV (pc := 905) (y := yX5_isSeen) (As := [.int (iv i), .int (iv x9), .int (iv y9)]) (rest := []) hC hE hP hD hS hl.1 (c_m_isSeen l ε m0 ad n G ([(o, eJ ε 1 g)] ++ va_pl L2 f2) i x9 y9 ri rx9 ry9 hI.2.1 hI.2.2.1) m_17_13 m_17_14 m_17_15 m_0_5 m_17_16 wM_o rfl hd_yX5_isSeen rfl ⟨⟨by decide, by decide⟩, (by show 40 + 20 * k + 3 + 0 ≤ 601024; omega), (by show 5000 + 3400 * k + 18 + 0 ≤ 7293034; omega)⟩ (Nat.le_of_ble_eq_true rfl) rfl dL_law_905 kxN (fun v9 w9 H locs hq hP hD hS => ?_)
    rcases hq with hq | hq | hq
    · obtain ⟨hd9, hv_, hw_⟩ := hq
      clear hC hE hK hx hb hI hR hR2 nx hP hD hS hl hX
      exfalso
      omega
    · obtain ⟨hd9, hv_, hw_⟩ := hq
      rw [hw_] at hP hD
      rw [hv_]
      clear hv_ hw_
      dsimp only [Option.toList, List.cons_append, List.nil_append]
      refine lv_istore (lv' := [(6, .int (iv 0)), (5, .int (iv 2)), (4, .int (iv (7 * (k : Int)))), (0, .ref b), (1, .ref x), (2, .ref m0), (3, .ref o)]) (pc := 908) hx hb dL_law_908 hl (by decide) rfl (fun ls hl => ?_)
      refine lv_aload_n (pc := 910) hx hb dL_law_910 rfl (lv_at hl 5 rfl) ?_
      refine c_callV (pc := 911) (y := yX5_thrown) (As := []) (rest := []) hC hE hP hD hS hl.1 (c_m_thrown l ε m0 ad (va_up n 5 2) G ([(o, eJ ε 1 g)] ++ va_pl L2 f2)) m_3_8 m_3_9 m_3_10 m_0_5 m_3_11 wM_o rfl hd_yX5_thrown rfl ⟨⟨by decide, by decide⟩, (by show 40 + 20 * k + 3 + 0 + 0 ≤ 601024; omega), (by show 5000 + 3400 * k + 18 + 0 + 0 ≤ 7293034; omega)⟩ (Nat.le_of_ble_eq_true rfl) rfl dL_law_911 kxN (fun v9 w9 H locs hq hP hD hS => ?_)
      rw [hq.2] at hP hD
      rw [hq.1]
      dsimp only [Option.toList, List.cons_append, List.nil_append]
      rw [show (va_up n 5 2) 5 = 2 from rfl]
      refine lv_iload (pc := 914) hx hb dL_law_914 (lv_at hl 1 rfl) ?_
      refine r_icmp_eq (pc := 916) (a := 2) (b := 2) hx hb dL_law_916 (tgt := 921) (by decide) ⟨by omega, by omega⟩ ⟨by omega, by omega⟩ (fun c_916 => ?_) (fun c_916 => ?_)
      · have c_916_ := c_916
        refine lv_iload (pc := 921) hx hb dL_law_921 (lv_at hl 1 rfl) ?_
        refine r_if_ne (pc := 923) (a := 2) hx hb dL_law_923 (tgt := 945) (by decide) ⟨by omega, by omega⟩ (fun c_923 => ?_) (fun c_923 => ?_)
        · have c_923_ := c_923
          refine lv_goto (pc := 945) (tgt := 1396) hx hb dL_law_945 (by decide) ?_
          refine W.widen (k := 40 + 20 * (k + 1)) (n := 5000 + 3400 * (k + 1)) (by show 40 + 20 * k + 3 + 0 + 0 ≤ _; omega) (by show 5000 + 3400 * k + 18 + 0 + 0 ≤ _; omega) ?_
          exact nx (va_up n 5 2) G g L2 f2 ρ2 _ _ _ ⟨INV.n5 hI, (show n 3 ≤ ((k + 1 : Nat) : Int) by omega), RX.num hR2 rfl rfl rfl rfl rfl⟩ hP hD hS (lv_sub hl [2, 3, 4, 5, 6] rfl)
        · exact absurd c_923 (by decide)
      · exact absurd c_916 (by decide)
    · obtain ⟨hd9, hv_, hw_⟩ := hq
      clear hC hE hK hx hb hI hR hR2 nx hP hD hS hl hX
      exfalso
      omega

set_option maxRecDepth 100000 in
set_option maxHeartbeats 4000000 in
theorem law_c11 {p : Program} {l : Launch} {e : Env} {s : State} {m : MethodId} {b N : Nat} {xs : Nat → Int32} {below : List Frame} {meth : Method} {c : Code} {ε : EV} {x m0 : Nat} {ad : Nat → Nat} {o : Nat} {Q : State → Prop} {k : Nat} (h0 : LCX p l s m b N xs meth c ε k) (nx : LAT p l e s m b below meth c ε x m0 ad o Q 1396 k (k + 1)) : LAT p l e s m b below meth c ε x m0 ad o Q 948 k k := by
  intro n G g L f ρ H locs ls hW hP hD hS hl
  obtain ⟨hI, h3, hR⟩ := hW
  obtain ⟨⟨nm9, tb9, hC⟩, hE, hst, hX, hbl, hbA, hN1, hN2⟩ := h0
  have hx := hC.1
  have hb := hC.2.1
  have hK := hE.K
  have hnb := hI.NB
  obtain ⟨i, hz_i⟩ : ∃ z : Int, z = ZZ xs (7 * (k : Int) + 1) := ⟨_, rfl⟩
  have ri : rg i := by rw [hz_i]; exact ZZ_rg _ _
  obtain ⟨j, hz_j⟩ : ∃ z : Int, z = ZZ xs (7 * (k : Int) + 2) := ⟨_, rfl⟩
  have rj : rg j := by rw [hz_j]; exact ZZ_rg _ _
  refine lv_aload_n (pc := 948) hx hb dL_law_948 rfl (lv_at hl 2 rfl) ?_
  refine lv_aload_n (pc := 949) hx hb dL_law_949 rfl (lv_at hl 1 rfl) ?_
  refine lv_iload (pc := 950) hx hb dL_law_950 (lv_at hl 0 rfl) ?_
  refine lv_iconst (pc := 952) (v := iv 1) hx hb dL_law_952 rfl ?_
  refine r_iadd (pc := 953) (a := 7 * (k : Int)) (b := 1) hx hb dL_law_953 ?_
  refine r_sld (pc := 954) (z := (7 * (k : Int)) + 1) (v := i) hC hX hbl hbA hS ⟨by omega, by omega, by omega⟩ hz_i dL_law_954 ?_
  refine lv_aload_n (pc := 955) hx hb dL_law_955 rfl (lv_at hl 1 rfl) ?_
  refine lv_iload (pc := 956) hx hb dL_law_956 (lv_at hl 0 rfl) ?_
  refine lv_iconst (pc := 958) (v := iv 2) hx hb dL_law_958 rfl ?_
  refine r_iadd (pc := 959) (a := 7 * (k : Int)) (b := 2) hx hb dL_law_959 ?_
  refine r_sld (pc := 960) (z := (7 * (k : Int)) + 2) (v := j) hC hX hbl hbA hS ⟨by omega, by omega, by omega⟩ hz_j dL_law_960 ?_
  refine lv_aload_n (pc := 961) hx hb dL_law_961 rfl (lv_at hl 4 rfl) ?_
  replace hP : WP ε ((wM ε m0 ad n G ++ [(o, eJ ε 1 g)]) ++ va_pl L f) H := by rw [List.append_assoc]; exact hP
  replace hD : WD ε ((wM ε m0 ad n G ++ [(o, eJ ε 1 g)]) ++ va_pl L f) := by rw [List.append_assoc]; exact hD
  refine c_callSW (pc := 962) (y := yL_common) (hh := [(0, 10, 13, 24)]) (As := [.ref x, .int (iv i), .int (iv j), .ref o]) (rest := []) hC hE hP hD hS hl.1 (c_L_common l ε (wM ε m0 ad n G) o g L f ρ hst x n G hR hI i j ri rj) m_17_21 m_17_22 m_2_9 m_17_23 hd_yL_common rfl ⟨⟨by decide, by decide⟩, (by show 40 + 20 * k + 2 ≤ 601024; omega), (by show 5000 + 3400 * k + 12 ≤ 7293034; omega)⟩ (Nat.le_of_ble_eq_true rfl) rfl dL_law_962 kxN (fun v9 w9 H locs hq hP hD hS => ?_)
  rcases hq with hq | hq
  · obtain ⟨hc9, hv_, L2, f2, ρ2, hw_, hR2⟩ := hq
    rw [hw_, List.append_assoc] at hP hD
    rw [hv_]
    clear hv_ hw_
    dsimp only [Option.toList, List.cons_append, List.nil_append]
    refine lv_istore (lv' := [(5, .int (iv 0)), (4, .int (iv (7 * (k : Int)))), (0, .ref b), (1, .ref x), (2, .ref m0), (3, .ref o)]) (pc := 965) hx hb dL_law_965 hl (by decide) rfl (fun ls hl => ?_)
    refine lv_aload_n (pc := 967) hx hb dL_law_967 rfl (lv_at hl 4 rfl) ?_
    refine lv_aload_n (pc := 968) hx hb dL_law_968 rfl (lv_at hl 2 rfl) ?_
    refine lv_iload (pc := 969) hx hb dL_law_969 (lv_at hl 1 rfl) ?_
    refine lv_iconst (pc := 971) (v := iv 1) hx hb dL_law_971 rfl ?_
    refine r_iadd (pc := 972) (a := 7 * (k : Int)) (b := 1) hx hb dL_law_972 ?_
    refine r_sld (pc := 973) (z := (7 * (k : Int)) + 1) (v := i) hC hX hbl hbA hS ⟨by omega, by omega, by omega⟩ hz_i dL_law_973 ?_
    refine lv_aload_n (pc := 974) hx hb dL_law_974 rfl (lv_at hl 2 rfl) ?_
    refine lv_iload (pc := 975) hx hb dL_law_975 (lv_at hl 1 rfl) ?_
    refine lv_iconst (pc := 977) (v := iv 2) hx hb dL_law_977 rfl ?_
    refine r_iadd (pc := 978) (a := 7 * (k : Int)) (b := 2) hx hb dL_law_978 ?_
    refine r_sld (pc := 979) (z := (7 * (k : Int)) + 2) (v := j) hC hX hbl hbA hS ⟨by omega, by omega, by omega⟩ hz_j dL_law_979 ?_
    refine c_callV (pc := 980) (y := yX5_common) (As := [.int (iv i), .int (iv j)]) (rest := []) hC hE hP hD hS hl.1 (c_m_common l ε m0 ad n G ([(o, eJ ε 1 (va_up g 0 (SH1 G i j)))] ++ va_pl L2 f2) i j ri rj hI.2.1 hI.2.2.1) m_18_14 m_18_15 m_18_16 m_0_5 m_18_17 wM_o rfl hd_yX5_common rfl ⟨⟨by decide, by decide⟩, (by show 40 + 20 * k + 2 + 0 ≤ 601024; omega), (by show 5000 + 3400 * k + 12 + 0 ≤ 7293034; omega)⟩ (Nat.le_of_ble_eq_true rfl) rfl dL_law_980 kxN (fun v9 w9 H locs hq hP hD hS => ?_)
    rcases hq with hq | hq
    · obtain ⟨hd9, hv_, hw_⟩ := hq
      clear hC hE hK hx hb hI hR hR2 nx hP hD hS hl hX
      exfalso
      omega
    · obtain ⟨hd9, hv_, hw_⟩ := hq
      rw [hw_] at hP hD
      rw [hv_]
      clear hv_ hw_
      dsimp only [Option.toList, List.cons_append, List.nil_append]
      have hsh := SH1_bd G i j
      rw [show COMM G i j = SH1 G i j from (SH1_eq G i j).symm]
      refine lv_istore (lv' := [(6, .int (iv (SH1 G i j))), (5, .int (iv 0)), (4, .int (iv (7 * (k : Int)))), (0, .ref b), (1, .ref x), (2, .ref m0), (3, .ref o)]) (pc := 983) hx hb dL_law_983 hl (by decide) rfl (fun ls hl => ?_)
      refine lv_aload_n (pc := 985) hx hb dL_law_985 rfl (lv_at hl 5 rfl) ?_
      refine c_callV (pc := 986) (y := yX5_thrown) (As := []) (rest := []) hC hE hP hD hS hl.1 (c_m_thrown l ε m0 ad (va_up n 5 0) G ([(o, eJ ε 1 (va_up g 0 (SH1 G i j)))] ++ va_pl L2 f2)) m_3_8 m_3_9 m_3_10 m_0_5 m_3_11 wM_o rfl hd_yX5_thrown rfl ⟨⟨by decide, by decide⟩, (by show 40 + 20 * k + 2 + 0 + 0 ≤ 601024; omega), (by show 5000 + 3400 * k + 12 + 0 + 0 ≤ 7293034; omega)⟩ (Nat.le_of_ble_eq_true rfl) rfl dL_law_986 kxN (fun v9 w9 H locs hq hP hD hS => ?_)
      rw [hq.2] at hP hD
      rw [hq.1]
      dsimp only [Option.toList, List.cons_append, List.nil_append]
      rw [show (va_up n 5 0) 5 = 0 from rfl]
      refine lv_iload (pc := 989) hx hb dL_law_989 (lv_at hl 1 rfl) ?_
      refine r_icmp_eq (pc := 991) (a := 0) (b := 0) hx hb dL_law_991 (tgt := 996) (by decide) ⟨by omega, by omega⟩ ⟨by omega, by omega⟩ (fun c_991 => ?_) (fun c_991 => ?_)
      · have c_991_ := c_991
        refine lv_iload (pc := 996) hx hb dL_law_996 (lv_at hl 1 rfl) ?_
        refine r_if_ne (pc := 998) (a := 0) hx hb dL_law_998 (tgt := 1013) (by decide) ⟨by omega, by omega⟩ (fun c_998 => ?_) (fun c_998 => ?_)
        · exact absurd c_998 (by decide)
        · have c_998_ := c_998
          refine lv_aload_n (pc := 1001) hx hb dL_law_1001 rfl (lv_at hl 6 rfl) ?_
          refine lv_iconst (pc := 1002) (v := iv 0) hx hb dL_law_1002 rfl ?_
          refine r_jald (pc := 1003) (z := 0) hC hK hP wM_out ⟨by decide, by decide, by decide⟩ dL_law_1003 ?_
          rw [show (va_up g 0 (SH1 G i j)) (Int.toNat 0) = SH1 G i j from va_up_self _ _ _]
          refine lv_iload (pc := 1004) hx hb dL_law_1004 (lv_at hl 0 rfl) ?_
          refine lv_i2l (pc := 1006) (v := jv (SH1 G i j)) hx hb dL_law_1006 (iv_long _ ⟨by omega, by omega⟩) ?_
          refine W.lcmp (pc := 1007) (x := jv (SH1 G i j)) (y := jv (SH1 G i j)) hx hb dL_law_1007 ?_
          rw [lg_cmp_jv ⟨by omega, by omega⟩ ⟨by omega, by omega⟩]
          have hcm_1007 := cmpI_self (SH1 G i j)
          refine r_if_eq (pc := 1008) (a := cmpI (SH1 G i j) (SH1 G i j)) hx hb dL_law_1008 (tgt := 1013) (by decide) ⟨by omega, by omega⟩ (fun c_1008 => ?_) (fun c_1008 => ?_)
          · have c_1008_ := c_1008
            refine lv_goto (pc := 1013) (tgt := 1396) hx hb dL_law_1013 (by decide) ?_
            refine W.widen (k := 40 + 20 * (k + 1)) (n := 5000 + 3400 * (k + 1)) (by show 40 + 20 * k + 2 + 0 + 0 ≤ _; omega) (by show 5000 + 3400 * k + 12 + 0 + 0 ≤ _; omega) ?_
            exact nx (va_up n 5 0) G (va_up g 0 (SH1 G i j)) L2 f2 ρ2 _ _ _ ⟨INV.n5 hI, (show n 3 ≤ ((k + 1 : Nat) : Int) by omega), RX.num hR2 rfl rfl rfl rfl rfl⟩ hP hD hS (lv_sub hl [2, 3, 4, 5, 6] rfl)
          · have c_1008_ := c_1008
            exact absurd (cmpI_self _) c_1008
      · exact absurd c_991 (by decide)
  · obtain ⟨hc9, hv_, L2, f2, ρ2, hw_, hR2⟩ := hq
    rw [hw_, List.append_assoc] at hP hD
    rw [hv_]
    clear hv_ hw_
    dsimp only [Option.toList, List.cons_append, List.nil_append]
    refine lv_istore (lv' := [(5, .int (iv 1)), (4, .int (iv (7 * (k : Int)))), (0, .ref b), (1, .ref x), (2, .ref m0), (3, .ref o)]) (pc := 965) hx hb dL_law_965 hl (by decide) rfl (fun ls hl => ?_)
    refine lv_aload_n (pc := 967) hx hb dL_law_967 rfl (lv_at hl 4 rfl) ?_
    refine lv_aload_n (pc := 968) hx hb dL_law_968 rfl (lv_at hl 2 rfl) ?_
    refine lv_iload (pc := 969) hx hb dL_law_969 (lv_at hl 1 rfl) ?_
    refine lv_iconst (pc := 971) (v := iv 1) hx hb dL_law_971 rfl ?_
    refine r_iadd (pc := 972) (a := 7 * (k : Int)) (b := 1) hx hb dL_law_972 ?_
    refine r_sld (pc := 973) (z := (7 * (k : Int)) + 1) (v := i) hC hX hbl hbA hS ⟨by omega, by omega, by omega⟩ hz_i dL_law_973 ?_
    refine lv_aload_n (pc := 974) hx hb dL_law_974 rfl (lv_at hl 2 rfl) ?_
    refine lv_iload (pc := 975) hx hb dL_law_975 (lv_at hl 1 rfl) ?_
    refine lv_iconst (pc := 977) (v := iv 2) hx hb dL_law_977 rfl ?_
    refine r_iadd (pc := 978) (a := 7 * (k : Int)) (b := 2) hx hb dL_law_978 ?_
    refine r_sld (pc := 979) (z := (7 * (k : Int)) + 2) (v := j) hC hX hbl hbA hS ⟨by omega, by omega, by omega⟩ hz_j dL_law_979 ?_
    refine c_callV (pc := 980) (y := yX5_common) (As := [.int (iv i), .int (iv j)]) (rest := []) hC hE hP hD hS hl.1 (c_m_common l ε m0 ad n G ([(o, eJ ε 1 g)] ++ va_pl L2 f2) i j ri rj hI.2.1 hI.2.2.1) m_18_14 m_18_15 m_18_16 m_0_5 m_18_17 wM_o rfl hd_yX5_common rfl ⟨⟨by decide, by decide⟩, (by show 40 + 20 * k + 2 + 0 ≤ 601024; omega), (by show 5000 + 3400 * k + 12 + 0 ≤ 7293034; omega)⟩ (Nat.le_of_ble_eq_true rfl) rfl dL_law_980 kxN (fun v9 w9 H locs hq hP hD hS => ?_)
    rcases hq with hq | hq
    · obtain ⟨hd9, hv_, hw_⟩ := hq
      rw [hw_] at hP hD
      rw [hv_]
      clear hv_ hw_
      dsimp only [Option.toList, List.cons_append, List.nil_append]
      refine lv_istore (lv' := [(6, .int (iv 0)), (5, .int (iv 1)), (4, .int (iv (7 * (k : Int)))), (0, .ref b), (1, .ref x), (2, .ref m0), (3, .ref o)]) (pc := 983) hx hb dL_law_983 hl (by decide) rfl (fun ls hl => ?_)
      refine lv_aload_n (pc := 985) hx hb dL_law_985 rfl (lv_at hl 5 rfl) ?_
      refine c_callV (pc := 986) (y := yX5_thrown) (As := []) (rest := []) hC hE hP hD hS hl.1 (c_m_thrown l ε m0 ad (va_up n 5 1) G ([(o, eJ ε 1 g)] ++ va_pl L2 f2)) m_3_8 m_3_9 m_3_10 m_0_5 m_3_11 wM_o rfl hd_yX5_thrown rfl ⟨⟨by decide, by decide⟩, (by show 40 + 20 * k + 2 + 0 + 0 ≤ 601024; omega), (by show 5000 + 3400 * k + 12 + 0 + 0 ≤ 7293034; omega)⟩ (Nat.le_of_ble_eq_true rfl) rfl dL_law_986 kxN (fun v9 w9 H locs hq hP hD hS => ?_)
      rw [hq.2] at hP hD
      rw [hq.1]
      dsimp only [Option.toList, List.cons_append, List.nil_append]
      rw [show (va_up n 5 1) 5 = 1 from rfl]
      refine lv_iload (pc := 989) hx hb dL_law_989 (lv_at hl 1 rfl) ?_
      refine r_icmp_eq (pc := 991) (a := 1) (b := 1) hx hb dL_law_991 (tgt := 996) (by decide) ⟨by omega, by omega⟩ ⟨by omega, by omega⟩ (fun c_991 => ?_) (fun c_991 => ?_)
      · have c_991_ := c_991
        refine lv_iload (pc := 996) hx hb dL_law_996 (lv_at hl 1 rfl) ?_
        refine r_if_ne (pc := 998) (a := 1) hx hb dL_law_998 (tgt := 1013) (by decide) ⟨by omega, by omega⟩ (fun c_998 => ?_) (fun c_998 => ?_)
        · have c_998_ := c_998
          refine lv_goto (pc := 1013) (tgt := 1396) hx hb dL_law_1013 (by decide) ?_
          refine W.widen (k := 40 + 20 * (k + 1)) (n := 5000 + 3400 * (k + 1)) (by show 40 + 20 * k + 2 + 0 + 0 ≤ _; omega) (by show 5000 + 3400 * k + 12 + 0 + 0 ≤ _; omega) ?_
          exact nx (va_up n 5 1) G g L2 f2 ρ2 _ _ _ ⟨INV.n5 hI, (show n 3 ≤ ((k + 1 : Nat) : Int) by omega), RX.num hR2 rfl rfl rfl rfl rfl⟩ hP hD hS (lv_sub hl [2, 3, 4, 5, 6] rfl)
        · exact absurd c_998 (by decide)
      · exact absurd c_991 (by decide)
    · obtain ⟨hd9, hv_, hw_⟩ := hq
      clear hC hE hK hx hb hI hR hR2 nx hP hD hS hl hX
      exfalso
      omega

set_option maxRecDepth 100000 in
set_option maxHeartbeats 4000000 in
theorem law_c12 {p : Program} {l : Launch} {e : Env} {s : State} {m : MethodId} {b N : Nat} {xs : Nat → Int32} {below : List Frame} {meth : Method} {c : Code} {ε : EV} {x m0 : Nat} {ad : Nat → Nat} {o : Nat} {Q : State → Prop} {k : Nat} (h0 : LCX p l s m b N xs meth c ε k) (nx : LAT p l e s m b below meth c ε x m0 ad o Q 1396 k (k + 1)) : LAT p l e s m b below meth c ε x m0 ad o Q 1016 k k := by
  intro n G g L f ρ H locs ls hW hP hD hS hl
  obtain ⟨hI, h3, hR⟩ := hW
  obtain ⟨⟨nm9, tb9, hC⟩, hE, hst, hX, hbl, hbA, hN1, hN2⟩ := h0
  have hx := hC.1
  have hb := hC.2.1
  have hK := hE.K
  have hnb := hI.NB
  refine lv_aload_n (pc := 1016) hx hb dL_law_1016 rfl (lv_at hl 2 rfl) ?_
  have hRI : RX (IN (wM ε m0 ad n G ++ ([(o, eJ ε 1 g)] ++ va_pl L f))) ε x n G := RX.map (fun _ _ _ h => in_right (in_right (in_pl (X := []) h.1.1 h.1.2))) hR
  obtain ⟨dr, aP, aL, aT, aC, Dr, eP, eL, eT, eC, hx0, -⟩ := id hRI
  refine c_callV (pc := 1017) (y := yX4_clashes) (As := []) (rest := []) hC hE hP hD hS hl.1 (c_R_clashes l ε (wM ε m0 ad n G ++ ([(o, eJ ε 1 g)] ++ va_pl L f)) hst x n G hRI hI.NB hI.2.1 hI.2.2.1) m_18_22 m_18_23 m_18_24 m_0_2 m_19_0 hx0 rfl hd_yX4_clashes rfl ⟨⟨by decide, by decide⟩, (by show 40 + 20 * k + 0 ≤ 601024; omega), (by show 5000 + 3400 * k + 0 ≤ 7293034; omega)⟩ (Nat.le_of_ble_eq_true rfl) rfl dL_law_1017 kxN (fun v9 w9 H locs hq hP hD hS => ?_)
  rw [hq.2] at hP hD
  rw [hq.1]
  dsimp only [Option.toList, List.cons_append, List.nil_append]
  refine lv_aload_n (pc := 1020) hx hb dL_law_1020 rfl (lv_at hl 3 rfl) ?_
  refine c_callV (pc := 1021) (y := yX5_clashes) (As := []) (rest := [.int (iv (CLC G (n 2).toNat (n 2).toNat))]) hC hE hP hD hS hl.1 (c_m_clashes l ε m0 ad n G ([(o, eJ ε 1 g)] ++ va_pl L f) hI.2.1 hI.2.2.1) m_19_5 m_19_6 m_19_7 m_0_5 m_19_8 wM_o rfl hd_yX5_clashes rfl ⟨⟨by decide, by decide⟩, (by show 40 + 20 * k + 0 + 0 ≤ 601024; omega), (by show 5000 + 3400 * k + 0 + 0 ≤ 7293034; omega)⟩ (Nat.le_of_ble_eq_true rfl) rfl dL_law_1021 kxN (fun v9 w9 H locs hq hP hD hS => ?_)
  rw [hq.2] at hP hD
  rw [hq.1]
  dsimp only [Option.toList, List.cons_append, List.nil_append]
  rw [← CLC_CLS hI.2.1 hI.2.2.1]
  refine lv_icmp_eq (pc := 1024) hx hb dL_law_1024 (tgt := 1396) (by decide) (fun _ => ?_) (fun c_1024 => absurd rfl c_1024)
  refine W.widen (k := 40 + 20 * (k + 1)) (n := 5000 + 3400 * (k + 1)) (by show 40 + 20 * k + 0 + 0 ≤ _; omega) (by show 5000 + 3400 * k + 0 + 0 ≤ _; omega) ?_
  exact nx (va_up n 5 0) G g L f ρ _ _ _ ⟨INV.n5 hI, (show n 3 ≤ ((k + 1 : Nat) : Int) by omega), RX.num hR rfl rfl rfl rfl rfl⟩ hP hD hS (lv_sub hl [0, 1, 2, 3, 4] rfl)

set_option maxRecDepth 100000 in
set_option maxHeartbeats 4000000 in
theorem law_c13 {p : Program} {l : Launch} {e : Env} {s : State} {m : MethodId} {b N : Nat} {xs : Nat → Int32} {below : List Frame} {meth : Method} {c : Code} {ε : EV} {x m0 : Nat} {ad : Nat → Nat} {o : Nat} {Q : State → Prop} {k : Nat} (h0 : LCX p l s m b N xs meth c ε k) (nx : LAT p l e s m b below meth c ε x m0 ad o Q 1396 k (k + 1)) : LAT p l e s m b below meth c ε x m0 ad o Q 1029 k k := by
  intro n G g L f ρ H locs ls hW hP hD hS hl
  obtain ⟨hI, h3, hR⟩ := hW
  obtain ⟨⟨nm9, tb9, hC⟩, hE, hst, hX, hbl, hbA, hN1, hN2⟩ := h0
  have hx := hC.1
  have hb := hC.2.1
  have hK := hE.K
  have hnb := hI.NB
  refine lv_aload_n (pc := 1029) hx hb dL_law_1029 rfl (lv_at hl 2 rfl) ?_
  have hRI : RX (IN (wM ε m0 ad n G ++ ([(o, eJ ε 1 g)] ++ va_pl L f))) ε x n G := RX.map (fun _ _ _ h => in_right (in_right (in_pl (X := []) h.1.1 h.1.2))) hR
  obtain ⟨dr, aP, aL, aT, aC, Dr, eP, eL, eT, eC, hx0, -⟩ := id hRI
  refine c_callV (pc := 1030) (y := yX4_notices) (As := []) (rest := []) hC hE hP hD hS hl.1 (c_R_notices l ε (wM ε m0 ad n G ++ ([(o, eJ ε 1 g)] ++ va_pl L f)) hst x n G hRI hI.NB hI.2.1 hI.2.2.1) m_19_9 m_19_10 m_19_11 m_0_2 m_19_12 hx0 rfl hd_yX4_notices rfl ⟨⟨by decide, by decide⟩, (by show 40 + 20 * k + 0 ≤ 601024; omega), (by show 5000 + 3400 * k + 0 ≤ 7293034; omega)⟩ (Nat.le_of_ble_eq_true rfl) rfl dL_law_1030 kxN (fun v9 w9 H locs hq hP hD hS => ?_)
  rw [hq.2] at hP hD
  rw [hq.1]
  dsimp only [Option.toList, List.cons_append, List.nil_append]
  refine lv_aload_n (pc := 1033) hx hb dL_law_1033 rfl (lv_at hl 3 rfl) ?_
  refine c_callV (pc := 1034) (y := yX5_notices) (As := []) (rest := [.int (iv (n 3))]) hC hE hP hD hS hl.1 (c_m_notices l ε m0 ad n G ([(o, eJ ε 1 g)] ++ va_pl L f)) m_19_13 m_19_14 m_19_15 m_0_5 m_19_16 wM_o rfl hd_yX5_notices rfl ⟨⟨by decide, by decide⟩, (by show 40 + 20 * k + 0 + 0 ≤ 601024; omega), (by show 5000 + 3400 * k + 0 + 0 ≤ 7293034; omega)⟩ (Nat.le_of_ble_eq_true rfl) rfl dL_law_1034 kxN (fun v9 w9 H locs hq hP hD hS => ?_)
  rw [hq.2] at hP hD
  rw [hq.1]
  dsimp only [Option.toList, List.cons_append, List.nil_append]
  refine lv_icmp_eq (pc := 1037) hx hb dL_law_1037 (tgt := 1396) (by decide) (fun _ => ?_) (fun c_1037 => absurd rfl c_1037)
  refine W.widen (k := 40 + 20 * (k + 1)) (n := 5000 + 3400 * (k + 1)) (by show 40 + 20 * k + 0 + 0 ≤ _; omega) (by show 5000 + 3400 * k + 0 + 0 ≤ _; omega) ?_
  exact nx (va_up n 5 0) G g L f ρ _ _ _ ⟨INV.n5 hI, (show n 3 ≤ ((k + 1 : Nat) : Int) by omega), RX.num hR rfl rfl rfl rfl rfl⟩ hP hD hS (lv_sub hl [0, 1, 2, 3, 4] rfl)
