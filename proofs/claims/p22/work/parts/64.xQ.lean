abbrev rm_c_W_print : Room := { frames := 8, cells := 4, slots := 1100, locals := 400 }
set_option maxRecDepth 100000 in
set_option maxHeartbeats 4000000 in
theorem c_W_print (l : Launch) (ε : EV) (X : va_W) (L : List Nat) (f : Nat → va_E) (hst : l.stackTraces = false) (ρ : Nat → Int) (x : Nat) (n : Nat → Int) (G : Nat → Nat → Int) (hR : RX (IP L f ρ) ε x n G) (hN : NB n) (h3 : VNot n G) (hz : G 12 (n 4).toNat = 0) : CT l yX4_print cX4_print 2 (some .int) rm_c_W_print ε [.ref x] (X ++ va_pl L f) (fun v w => (n 4 < 10) ∧ v = some (.int (iv (n 4))) ∧ ∃ (L2 : List Nat) (f2 : Nat → va_E) (ρ2 : Nat → Int), w = X ++ va_pl L2 f2 ∧ RX (IP L2 f2 ρ2) ε x (va_up n 4 (n 4 + 1)) (PUT (n 4) (SH G (n 4) 12) (mn (n 3) (n 3 - G 12 (n 4).toNat)).toNat)) (fun E w => n 4 = 10 ∧ E = nISE ∧ w = X ++ va_pl L f) := by
  refine CT.intro (by decide +kernel) (Nat.le_of_ble_eq_true rfl) ?_
  intro p9 e9 s9 m9 a9 bl9 me9 c9 ls Q9 hC hE hP hD hl hQ
  have hx := hC.1
  have hb := hC.2.1
  have hK := hE.K
  have hS : WS ε s9.heap s9.heap [] := va_S.rf
  have hl : lv_has ls 2 [(0, .ref x)] := hl
  obtain ⟨H, hH⟩ : ∃ H, H = s9.heap := ⟨_, rfl⟩
  obtain ⟨locs, hlo⟩ : ∃ z : List Loc, z = [] := ⟨_, rfl⟩
  rw [← hH] at hP ⊢
  have hS : WS ε s9.heap H locs := by rw [hH, hlo]; exact hS
  rw [← hlo]
  clear hH hlo
  obtain ⟨dr, aP, aL, aT, aC, Dr, eP, eL, eT, eC, hRC⟩ := id hR
  obtain ⟨hx0, hxD, hlP, hlL, hlT, hlC, hpP, hpL, hpT, hpC⟩ := id hRC
  have hnb := hN
  have hxd : x ≠ dr := fun z => by have h1 := hx0.1.2; rw [z, hxD.1.1.2] at h1; cases h1
  refine lv_aload_n (pc := 0) hx hb dX4_print_0 rfl (lv_at hl 0 rfl) ?_
  refine r_get (pc := 1) hC hK hP (in_pl hx0.1.1 hx0.1.2) (hc := rfl) (fun w h => wt_0 w h) 5 (by decide) m_1_3 (fun _ h => h) (v := .ref aC) rfl dX4_print_1 ?_
  obtain ⟨md_4, ed_4, ho_4, -⟩ := (LISTR.map IP.IN hlC).own
  refine c_callV (pc := 4) (y := yJx4a65c_size_8abf5) (As := []) (rest := []) hC hE hP hD hS hl.1 (c_A_sizeL l ε (X ++ va_pl L f) (LISTR.map IP.IN hlC)) m_2_3 m_2_4 m_2_5 m_0_24 m_2_6 ho_4 rfl hd_yJx4a65c_size_8abf5 rfl ⟨⟨by decide, by decide⟩, by decide, by decide⟩ (Nat.le_of_ble_eq_true rfl) rfl dX4_print_4 kxN (fun v ws1 H locs hq hP hD hS => ?_)
  rw [hq.2] at hP hD
  rw [hq.1]
  dsimp only [Option.toList, List.cons_append, List.nil_append]
  refine lv_bipush (pc := 7) (v := iv 10) hx hb dX4_print_7 (by decide) ?_
  refine r_icmp_lt (pc := 9) (a := n 4) (b := 10) hx hb dX4_print_9 (tgt := 22) (by decide) ⟨by omega, by omega⟩ ⟨by omega, by omega⟩ (fun c_9 => ?_) (fun c_9 => ?_)
  · have c_9_ := c_9
    refine p_new (pc := 22) (ci := 1) (fs := [.null, .int (iv 0)]) (C := RX0) (T := TX0) (N := 2) hC hE hP hD hS rfl (fun w h => wt_6 w h) tyX0 tyX0_ok m_12_15 m_12_16 m_12_17 (fun j hj => by match j, hj with | 0, _ => rfl | 1, _ => rfl) (by decide) (by decide) dX4_print_22 (fun q1 H hq1 hP hD hS => ?_)
    replace hP : WP ε (X ++ va_pl (L ++ [q1]) (va_up f q1 (.inr (1, [.null, .int (iv 0)])))) H := hP
    replace hD : WD ε (X ++ va_pl (L ++ [q1]) (va_up f q1 (.inr (1, [.null, .int (iv 0)])))) := hD
    refine lv_dup (pc := 25) hx hb dX4_print_25 rfl ?_
    refine c_callI (pc := 26) (y := yX0_init) (As := []) (rest := [.ref q1]) hC hE hP hD hS hl.1 (c_C_init l ε X (L ++ [q1]) (va_up f q1 (.inr (1, [.null, .int (iv 0)]))) q1 (List.mem_append_right _ (List.mem_singleton.mpr rfl)) (va_up_self _ _ _)) m_12_18 m_12_19 m_12_17 m_12_20 rfl hd_yX0_init rfl ⟨⟨by decide, by decide⟩, by decide, by decide⟩ (Nat.le_of_ble_eq_true rfl) rfl dX4_print_26 (fun v ws1 H locs hq hP hD hS => ?_)
    obtain ⟨hv_, f1, s9, hs9, ⟨hfq, hfs⟩, hfo, hw_⟩ := hq
    obtain ⟨S9, hg1, hg2⟩ := hfs
    rw [hw_] at hP hD
    rw [hv_]
    clear hv_ hw_
    dsimp only [Option.toList, List.cons_append, List.nil_append]
    replace hP : WP ε (X ++ va_pl ((L ++ [q1]) ++ [s9]) f1) H := hP
    replace hD : WD ε (X ++ va_pl ((L ++ [q1]) ++ [s9]) f1) := hD
    have kq : KEEP L f ρ ((L ++ [q1]) ++ [s9]) f1 (va_up (va_up ρ q1 (6000 + n 4)) s9 (7000 + n 4)) (fun _ => False) := KEEP.ext (fun b h1 => ⟨(List.mem_append_left _ (List.mem_append_left _ h1)), (hfo b (List.mem_append_left _ h1) (fun hz : b = q1 => hq1 (hz ▸ h1))).trans (va_up_ne _ _ (fun hz : b = q1 => hq1 (hz ▸ h1))), (va_up_ne _ _ (fun hz : b = s9 => hs9 (hz ▸ (List.mem_append_left _ h1)))).trans (va_up_ne _ _ (fun hz : b = q1 => hq1 (hz ▸ h1)))⟩)
    have hQ1 : RQC (IP ((L ++ [q1]) ++ [s9]) f1 (va_up (va_up ρ q1 (6000 + n 4)) s9 (7000 + n 4))) ε x n (SH G (n 4) 12) dr aP aL aT aC Dr eP eL eT eC (n 4) q1 := RXC.chart hRC hnb.2.2.1 hz kq ⟨⟨(List.mem_append_left _ (List.mem_append_right _ (List.mem_singleton.mpr rfl))), hfq⟩, (va_up_ne _ _ (fun hz : q1 = s9 => hs9 (hz ▸ (List.mem_append_right _ (List.mem_singleton.mpr rfl))))).trans (va_up_self _ _ _)⟩ ⟨⟨(List.mem_append_right _ (List.mem_singleton.mpr rfl)), hg1⟩, va_up_self _ _ _⟩ hg2
    have hlT1 := hQ1.2.2.2.2.1
    refine lv_astore_n (lv' := [(1, .ref q1), (0, .ref x)]) (pc := 29) hx hb dX4_print_29 rfl hl (by decide) rfl (fun ls hl => ?_)
    refine lv_aload_n (pc := 30) hx hb dX4_print_30 rfl (lv_at hl 1 rfl) ?_
    refine lv_aload_n (pc := 31) hx hb dX4_print_31 rfl (lv_at hl 0 rfl) ?_
    refine lv_aload_n (pc := 32) hx hb dX4_print_32 rfl (lv_at hl 1 rfl) ?_
    refine r_get (pc := 33) hC hK hP (in_pl (List.mem_append_left _ (List.mem_append_left _ hx0.1.1)) ((hfo x (List.mem_append_left _ hx0.1.1) (fun hz : x = q1 => hq1 (hz ▸ hx0.1.1))).trans ((va_up_ne _ _ (fun hz : x = q1 => hq1 (hz ▸ hx0.1.1))).trans hx0.1.2))) (hc := rfl) (fun w h => wt_0 w h) 4 (by decide) m_1_2 (fun _ h => h) (v := .ref aT) rfl dX4_print_33 ?_
    obtain ⟨md_36, ed_36, ho_36, -⟩ := (LISTR.map IP.IN hlT1).own
    refine c_callV (pc := 36) (y := yJx4a65c_size_8abf5) (As := []) (rest := [.ref q1, .ref x]) hC hE hP hD hS hl.1 (c_A_sizeL l ε (X ++ va_pl ((L ++ [q1]) ++ [s9]) f1) (LISTR.map IP.IN hlT1)) m_2_3 m_2_4 m_2_5 m_0_24 m_2_6 ho_36 rfl hd_yJx4a65c_size_8abf5 rfl ⟨⟨by decide, by decide⟩, by decide, by decide⟩ (Nat.le_of_ble_eq_true rfl) rfl dX4_print_36 kxN (fun v ws1 H locs hq hP hD hS => ?_)
    rw [hq.2] at hP hD
    rw [hq.1]
    dsimp only [Option.toList, List.cons_append, List.nil_append]
    refine c_callV (pc := 39) (y := yX4_putIn) (As := [.ref q1, .int (iv (n 3))]) (rest := []) hC hE hP hD hS hl.1 (c_W_putIn l ε X ((L ++ [q1]) ++ [s9]) f1 (va_up (va_up ρ q1 (6000 + n 4)) s9 (7000 + n 4)) x n (SH G (n 4) 12) dr aP aL aT aC Dr eP eL eT eC (n 4) q1 hQ1 hN ⟨by omega, by omega⟩ (by show 0 ≤ G 12 (n 4).toNat ∧ G 12 (n 4).toNat ≤ n 3; omega) h3 (n 3) ⟨by omega, by omega⟩) m_13_2 m_13_3 m_13_4 m_0_2 m_13_5 (in_pl (List.mem_append_left _ (List.mem_append_left _ hx0.1.1)) ((hfo x (List.mem_append_left _ hx0.1.1) (fun hz : x = q1 => hq1 (hz ▸ hx0.1.1))).trans ((va_up_ne _ _ (fun hz : x = q1 => hq1 (hz ▸ hx0.1.1))).trans hx0.1.2))) rfl hd_yX4_putIn rfl ⟨⟨by decide, by decide⟩, by decide, by decide⟩ (Nat.le_of_ble_eq_true rfl) rfl dX4_print_39 kxN (fun v ws1 H locs hq hP hD hS => ?_)
    obtain ⟨hv_, f2, hw_, hQ2⟩ := hq
    rw [hw_] at hP hD
    rw [hv_]
    clear hv_ hw_
    dsimp only [Option.toList, List.cons_append, List.nil_append]
    replace hP : WP ε (X ++ va_pl ((L ++ [q1]) ++ [s9]) f2) H := hP
    replace hD : WD ε (X ++ va_pl ((L ++ [q1]) ++ [s9]) f2) := hD
    obtain ⟨pq, Sq, hcq, -⟩ := id hQ2.2.2.2.2.2.2.2.2.2.2
    refine lv_aload_n (pc := 42) hx hb dX4_print_42 rfl (lv_at hl 1 rfl) ?_
    refine r_get (pc := 43) hC hK hP (in_pl (List.mem_append_left _ (List.mem_append_left _ hx0.1.1)) hQ2.1.1.2) (hc := rfl) (fun w h => wt_0 w h) 5 (by decide) m_1_3 (fun _ h => h) (v := .ref aC) rfl dX4_print_43 ?_
    refine lv_aload_n (pc := 46) hx hb dX4_print_46 rfl (lv_at hl 0 rfl) ?_
    have hlq := hQ2.2.2.2.2.2.1
    obtain ⟨md_47, ed_47, ho_47, -⟩ := (LISTR.map IP.IN hlq).own
    refine c_callV (pc := 47) (y := yJx4a65c_add_9ea2d) (As := [.ref q1]) (rest := []) hC hE hP hD hS hl.1 (c_A_add l ε X ((L ++ [q1]) ++ [s9]) f2 (va_up (va_up ρ q1 (6000 + n 4)) s9 (7000 + n 4)) hlq ⟨by omega, by omega⟩ 1 (RX0, TX0, 2) rfl (by decide) (by decide) (fun c a b => by obtain ⟨fs, hh⟩ := RQC.chartIn hQ2 a b; exact ⟨hh.1.1, fs, hh.1.2⟩) q1 _ hcq.1.1 hcq.1.2) m_6_22 m_6_23 m_6_24 m_0_24 m_7_0 ho_47 rfl hd_yJx4a65c_add_9ea2d rfl ⟨⟨by decide, by decide⟩, by decide, by decide⟩ (Nat.le_of_ble_eq_true rfl) rfl dX4_print_47 kxN (fun v ws1 H locs hq hP hD hS => ?_)
    obtain ⟨hv_, L3, f3, ρ3, hw_, hk3, hl3⟩ := hq
    rw [hw_] at hP hD
    rw [hv_]
    clear hv_ hw_
    dsimp only [Option.toList, List.cons_append, List.nil_append]
    have hx2 := hk3 _ _ _ hQ2.1 (by decide)
    refine lv_pop (pc := 50) hx hb dX4_print_50 rfl ?_
    refine lv_aload_n (pc := 51) hx hb dX4_print_51 rfl (lv_at hl 1 rfl) ?_
    refine r_get (pc := 52) hC hK hP (in_pl hx2.1.1 hx2.1.2) (hc := rfl) (fun w h => wt_0 w h) 5 (by decide) m_1_3 (fun _ h => h) (v := .ref aC) rfl dX4_print_52 ?_
    obtain ⟨md_55, ed_55, ho_55, -⟩ := (LISTR.map IP.IN hl3).own
    refine c_callV (pc := 55) (y := yJx4a65c_size_8abf5) (As := []) (rest := []) hC hE hP hD hS hl.1 (c_A_sizeL l ε (X ++ va_pl L3 f3) (LISTR.map IP.IN hl3)) m_2_3 m_2_4 m_2_5 m_0_24 m_2_6 ho_55 rfl hd_yJx4a65c_size_8abf5 rfl ⟨⟨by decide, by decide⟩, by decide, by decide⟩ (Nat.le_of_ble_eq_true rfl) rfl dX4_print_55 kxN (fun v ws1 H locs hq hP hD hS => ?_)
    rw [hq.2] at hP hD
    rw [hq.1]
    dsimp only [Option.toList, List.cons_append, List.nil_append]
    refine lv_iconst (pc := 58) (v := iv 1) hx hb dX4_print_58 rfl ?_
    refine r_isub (pc := 59) (a := n 4 + 1) (b := 1) hx hb dX4_print_59 ?_
    refine c_iret (pc := 60) hC hQ hP hD hS (by decide) (by decide) dX4_print_60 ?_
    exact ⟨by omega, by rw [show n 4 + 1 - 1 = n 4 by omega], L3, f3, ρ3, rfl, by rw [show (mn (n 3) (n 3 - G 12 (n 4).toNat)).toNat = (mn (SH G (n 4) 12 12 (n 4).toNat + n 3) (n 3) - SH G (n 4) 12 12 (n 4).toNat).toNat from by show (mn (n 3) (n 3 - G 12 (n 4).toNat)).toNat = (mn (G 12 (n 4).toNat + n 3) (n 3) - G 12 (n 4).toNat).toNat; rw [hz, Int.zero_add, Int.sub_zero, Int.sub_zero]]; exact RQC.add hQ2 hk3 hnb.2.2.1 hl3⟩
  · have c_9_ := c_9
    refine c_throw (pc := 12) (cls := nISE) (text := "there are all the charts that can be") (ik := 37) (is := 147) (ic := 41) hC hst hQ hE hP hD hS hl.1 (Or.inl ⟨rfl, rfl, rfl⟩) (by decide) dX4_print_12 dX4_print_15 dX4_print_16 dX4_print_18 dX4_print_21 ⟨by decide, by decide, by decide, by decide⟩ ⟨by decide, by decide⟩ ?_
    exact ⟨by omega, rfl, rfl⟩
