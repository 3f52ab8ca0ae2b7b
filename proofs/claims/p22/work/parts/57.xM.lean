abbrev rm_c_W_lamp : Room := { frames := 9, cells := 14, slots := 3300, locals := 500 }
set_option maxRecDepth 100000 in
set_option maxHeartbeats 4000000 in
theorem c_W_lamp (l : Launch) (ε : EV) (X : va_W) (L : List Nat) (f : Nat → va_E) (hst : l.stackTraces = false) (ρ : Nat → Int) (x : Nat) (n : Nat → Int) (G : Nat → Nat → Int) (hR : RX (IP L f ρ) ε x n G) (hN : NB n) (h3 : n 3 < 512) (hz7 : G 7 (n 2).toNat = 0) (hz10 : G 10 (n 2).toNat = 0) (x9 y9 q rc se : Int) (rx : rg x9) (ry : rg y9) (rq : rg q) (rr : rg rc) (rs : rg se) : CT l yX4_lamp cX4_lamp 7 (some .int) rm_c_W_lamp ε [.ref x, .int (iv x9), .int (iv y9), .int (iv q), .int (iv rc), .int (iv se)] (X ++ va_pl L f) (fun v w => (((0 ≤ q ∧ q < n 1) ∧ (((0 ≤ x9 ∧ x9 ≤ 31) ∧ 0 ≤ y9 ∧ y9 ≤ 31) ∧ (1 ≤ rc ∧ rc ≤ 40) ∧ 1 ≤ se ∧ se ≤ 255)) ∧ n 2 < 12) ∧ v = some (.int (iv (n 2))) ∧ ∃ (L2 : List Nat) (f2 : Nat → va_E) (ρ2 : Nat → Int), w = X ++ va_pl L2 f2 ∧ RX (IP L2 f2 ρ2) ε x (va_up (va_up n 2 (n 2 + 1)) 3 (n 3 + 1)) (va_up (GL n G x9 y9 q rc se) 11 (va_up ((GL n G x9 y9 q rc se) 11) ((n 3).toNat) (NV (GL n G x9 y9 q rc se) (n 2))))) (fun E w => (¬ (0 ≤ q ∧ q < n 1) ∧ E = nIOE ∧ w = X ++ va_pl L f) ∨ (((0 ≤ q ∧ q < n 1) ∧ ¬ (((0 ≤ x9 ∧ x9 ≤ 31) ∧ 0 ≤ y9 ∧ y9 ≤ 31) ∧ (1 ≤ rc ∧ rc ≤ 40) ∧ 1 ≤ se ∧ se ≤ 255)) ∧ E = nIAE ∧ w = X ++ va_pl L f) ∨ ((((0 ≤ q ∧ q < n 1) ∧ (((0 ≤ x9 ∧ x9 ≤ 31) ∧ 0 ≤ y9 ∧ y9 ≤ 31) ∧ (1 ≤ rc ∧ rc ≤ 40) ∧ 1 ≤ se ∧ se ≤ 255)) ∧ n 2 = 12) ∧ E = nISE ∧ w = X ++ va_pl L f)) := by
  refine CT.intro (by decide +kernel) (Nat.le_of_ble_eq_true rfl) ?_
  intro p9 e9 s9 m9 a9 bl9 me9 c9 ls Q9 hC hE hP hD hl hQ
  have hx := hC.1
  have hb := hC.2.1
  have hK := hE.K
  have hS : WS ε s9.heap s9.heap [] := va_S.rf
  have hl : lv_has ls 7 [(0, .ref x), (1, .int (iv x9)), (2, .int (iv y9)), (3, .int (iv q)), (4, .int (iv rc)), (5, .int (iv se))] := hl
  obtain ⟨H, hH⟩ : ∃ H, H = s9.heap := ⟨_, rfl⟩
  obtain ⟨locs, hlo⟩ : ∃ z : List Loc, z = [] := ⟨_, rfl⟩
  rw [← hH] at hP ⊢
  have hS : WS ε s9.heap H locs := by rw [hH, hlo]; exact hS
  rw [← hlo]
  clear hH hlo
  obtain ⟨dr, aP, aL, aT, aC, Dr, eP, eL, eT, eC, hRC⟩ := id hR
  obtain ⟨hx0, hxD, hlP, hlL, hlT, hlC, hpP, hpL, hpT, hpC⟩ := id hRC
  have hnb := hN
  have hxd : x ≠ dr := fun z => by have h1 := hx0.1.2; rw [z, hxD.1.1.2] at h1; cases h1
  refine lv_aload_n (pc := 0) hx hb dX4_lamp_0 rfl (lv_at hl 0 rfl) ?_
  refine lv_iload_n (pc := 1) hx hb dX4_lamp_1 rfl (lv_at hl 3 rfl) ?_
  refine c_callV (pc := 2) (y := yX4_requirePattern) (As := [.int (iv q)]) (rest := []) hC hE hP hD hS hl.1 (c_R_reqP l ε (X ++ va_pl L f) hst x n G (RX.map IP.IN hR) hN (q) ⟨by omega, by omega⟩) m_3_14 m_3_15 m_3_16 m_0_2 m_3_17 (in_pl hx0.1.1 hx0.1.2) rfl hd_yX4_requirePattern rfl ⟨⟨by decide, by decide⟩, by decide, by decide⟩ (Nat.le_of_ble_eq_true rfl) rfl dX4_lamp_2 (fun E ce q9 ws1 H1 locs1 hq hP hD hS h1 h2 h3 => c_out hC hQ hP hD hS h1 h2 h3 (by decide) (by decide) (Or.inl hq)) (fun v ws1 H locs hq hP hD hS => ?_)
  obtain ⟨hg1, hv_, hw_⟩ := hq
  rw [hw_] at hP hD
  rw [hv_]
  clear hv_ hw_
  dsimp only [Option.toList, List.cons_append, List.nil_append]
  refine lv_iload_n (pc := 5) hx hb dX4_lamp_5 rfl (lv_at hl 1 rfl) ?_
  refine lv_iload_n (pc := 6) hx hb dX4_lamp_6 rfl (lv_at hl 2 rfl) ?_
  refine c_callS (pc := 7) (y := yX4_requirePlace) (As := [.int (iv x9), .int (iv y9)]) (rest := []) hC hE hP hD hS hl.1 (c_R_place l ε (X ++ va_pl L f) hst (x9) (y9) ⟨by omega, by omega⟩ ⟨by omega, by omega⟩) m_11_12 m_11_13 m_0_2 m_11_14 hd_yX4_requirePlace rfl ⟨⟨by decide, by decide⟩, by decide, by decide⟩ (Nat.le_of_ble_eq_true rfl) rfl dX4_lamp_7 (fun E ce q9 ws1 H1 locs1 hq hP hD hS h1 h2 h3 => c_out hC hQ hP hD hS h1 h2 h3 (by decide) (by decide) (Or.inr (Or.inl ⟨⟨by omega, fun z => hq.1 z.1⟩, hq.2⟩))) (fun v ws1 H locs hq hP hD hS => ?_)
  obtain ⟨hg2, hv_, hw_⟩ := hq
  rw [hw_] at hP hD
  rw [hv_]
  clear hv_ hw_
  dsimp only [Option.toList, List.cons_append, List.nil_append]
  refine lv_iload (pc := 10) hx hb dX4_lamp_10 (lv_at hl 4 rfl) ?_
  refine lv_iconst (pc := 12) (v := iv 1) hx hb dX4_lamp_12 rfl ?_
  refine lv_bipush (pc := 13) (v := iv 40) hx hb dX4_lamp_13 (by decide) ?_
  refine c_callS (pc := 15) (y := yX4_requireWithin) (As := [.int (iv rc), .int (iv 1), .int (iv 40)]) (rest := []) hC hE hP hD hS hl.1 (c_R_within l ε (X ++ va_pl L f) hst (rc) (1) (40) ⟨by omega, by omega⟩ ⟨by omega, by omega⟩ ⟨by omega, by omega⟩) m_5_5 m_5_6 m_0_2 m_5_7 hd_yX4_requireWithin rfl ⟨⟨by decide, by decide⟩, by decide, by decide⟩ (Nat.le_of_ble_eq_true rfl) rfl dX4_lamp_15 (fun E ce q9 ws1 H1 locs1 hq hP hD hS h1 h2 h3 => c_out hC hQ hP hD hS h1 h2 h3 (by decide) (by decide) (Or.inr (Or.inl ⟨⟨by omega, fun z => hq.1 z.2.1⟩, hq.2⟩))) (fun v ws1 H locs hq hP hD hS => ?_)
  obtain ⟨hg3, hv_, hw_⟩ := hq
  rw [hw_] at hP hD
  rw [hv_]
  clear hv_ hw_
  dsimp only [Option.toList, List.cons_append, List.nil_append]
  refine lv_iload (pc := 18) hx hb dX4_lamp_18 (lv_at hl 5 rfl) ?_
  refine lv_iconst (pc := 20) (v := iv 1) hx hb dX4_lamp_20 rfl ?_
  refine lv_sipush (pc := 21) (v := iv 255) hx hb dX4_lamp_21 (by decide) ?_
  refine c_callS (pc := 24) (y := yX4_requireWithin) (As := [.int (iv se), .int (iv 1), .int (iv 255)]) (rest := []) hC hE hP hD hS hl.1 (c_R_within l ε (X ++ va_pl L f) hst (se) (1) (255) ⟨by omega, by omega⟩ ⟨by omega, by omega⟩ ⟨by omega, by omega⟩) m_5_5 m_5_6 m_0_2 m_5_7 hd_yX4_requireWithin rfl ⟨⟨by decide, by decide⟩, by decide, by decide⟩ (Nat.le_of_ble_eq_true rfl) rfl dX4_lamp_24 (fun E ce q9 ws1 H1 locs1 hq hP hD hS h1 h2 h3 => c_out hC hQ hP hD hS h1 h2 h3 (by decide) (by decide) (Or.inr (Or.inl ⟨⟨by omega, fun z => hq.1 z.2.2⟩, hq.2⟩))) (fun v ws1 H locs hq hP hD hS => ?_)
  obtain ⟨hg4, hv_, hw_⟩ := hq
  rw [hw_] at hP hD
  rw [hv_]
  clear hv_ hw_
  dsimp only [Option.toList, List.cons_append, List.nil_append]
  refine lv_aload_n (pc := 27) hx hb dX4_lamp_27 rfl (lv_at hl 0 rfl) ?_
  refine r_get (pc := 28) hC hK hP (in_pl hx0.1.1 hx0.1.2) (hc := rfl) (fun w h => wt_0 w h) 3 (by decide) m_1_1 (fun _ h => h) (v := .ref aL) rfl dX4_lamp_28 ?_
  obtain ⟨md_31, ed_31, ho_31, -⟩ := (LISTR.map IP.IN hlL).own
  refine c_callV (pc := 31) (y := yJx4a65c_size_8abf5) (As := []) (rest := []) hC hE hP hD hS hl.1 (c_A_sizeL l ε (X ++ va_pl L f) (LISTR.map IP.IN hlL)) m_2_3 m_2_4 m_2_5 m_0_24 m_2_6 ho_31 rfl hd_yJx4a65c_size_8abf5 rfl ⟨⟨by decide, by decide⟩, by decide, by decide⟩ (Nat.le_of_ble_eq_true rfl) rfl dX4_lamp_31 kxN (fun v ws1 H locs hq hP hD hS => ?_)
  rw [hq.2] at hP hD
  rw [hq.1]
  dsimp only [Option.toList, List.cons_append, List.nil_append]
  refine lv_bipush (pc := 34) (v := iv 12) hx hb dX4_lamp_34 (by decide) ?_
  refine r_icmp_lt (pc := 36) (a := n 2) (b := 12) hx hb dX4_lamp_36 (tgt := 49) (by decide) ⟨by omega, by omega⟩ ⟨by omega, by omega⟩ (fun c_36 => ?_) (fun c_36 => ?_)
  · have c_36_ := c_36
    refine lv_aload_n (pc := 49) hx hb dX4_lamp_49 rfl (lv_at hl 0 rfl) ?_
    refine r_get (pc := 50) hC hK hP (in_pl hx0.1.1 hx0.1.2) (hc := rfl) (fun w h => wt_0 w h) 3 (by decide) m_1_1 (fun _ h => h) (v := .ref aL) rfl dX4_lamp_50 ?_
    obtain ⟨md_53, ed_53, ho_53, -⟩ := (LISTR.map IP.IN hlL).own
    refine c_callV (pc := 53) (y := yJx4a65c_size_8abf5) (As := []) (rest := []) hC hE hP hD hS hl.1 (c_A_sizeL l ε (X ++ va_pl L f) (LISTR.map IP.IN hlL)) m_2_3 m_2_4 m_2_5 m_0_24 m_2_6 ho_53 rfl hd_yJx4a65c_size_8abf5 rfl ⟨⟨by decide, by decide⟩, by decide, by decide⟩ (Nat.le_of_ble_eq_true rfl) rfl dX4_lamp_53 kxN (fun v ws1 H locs hq hP hD hS => ?_)
    rw [hq.2] at hP hD
    rw [hq.1]
    dsimp only [Option.toList, List.cons_append, List.nil_append]
    refine lv_istore (lv' := [(6, .int (iv (n 2))), (0, .ref x), (1, .int (iv x9)), (2, .int (iv y9)), (3, .int (iv q)), (4, .int (iv rc)), (5, .int (iv se))]) (pc := 56) hx hb dX4_lamp_56 hl (by decide) rfl (fun ls hl => ?_)
    refine lv_aload_n (pc := 58) hx hb dX4_lamp_58 rfl (lv_at hl 1 rfl) ?_
    refine r_get (pc := 59) hC hK hP (in_pl hx0.1.1 hx0.1.2) (hc := rfl) (fun w h => wt_0 w h) 3 (by decide) m_1_1 (fun _ h => h) (v := .ref aL) rfl dX4_lamp_59 ?_
    refine p_new (pc := 62) (ci := 2) (fs := [.int (iv 0), .int (iv 0), .null, .int (iv 0), .int (iv 0), .int (iv 0)]) (C := RX1) (T := TX1) (N := 6) hC hE hP hD hS rfl (fun w h => wt_4 w h) tyX1 tyX1_ok m_14_22 m_14_23 m_4_8 (fun j hj => by match j, hj with | 0, _ => rfl | 1, _ => rfl | 2, _ => rfl | 3, _ => rfl | 4, _ => rfl | 5, _ => rfl) (by decide) (by decide) dX4_lamp_62 (fun q5 H hq5 hP hD hS => ?_)
    replace hP : WP ε (X ++ va_pl (L ++ [q5]) (va_up f q5 (.inr (2, [.int (iv 0), .int (iv 0), .null, .int (iv 0), .int (iv 0), .int (iv 0)])))) H := hP
    replace hD : WD ε (X ++ va_pl (L ++ [q5]) (va_up f q5 (.inr (2, [.int (iv 0), .int (iv 0), .null, .int (iv 0), .int (iv 0), .int (iv 0)])))) := hD
    refine lv_dup (pc := 65) hx hb dX4_lamp_65 rfl ?_
    refine lv_iload_n (pc := 66) hx hb dX4_lamp_66 rfl (lv_at hl 2 rfl) ?_
    refine lv_iload_n (pc := 67) hx hb dX4_lamp_67 rfl (lv_at hl 3 rfl) ?_
    refine lv_iload_n (pc := 68) hx hb dX4_lamp_68 rfl (lv_at hl 4 rfl) ?_
    refine lv_iload (pc := 69) hx hb dX4_lamp_69 (lv_at hl 5 rfl) ?_
    refine lv_iload (pc := 71) hx hb dX4_lamp_71 (lv_at hl 6 rfl) ?_
    refine c_callI (pc := 73) (y := yX1_init) (As := [.int (iv x9), .int (iv y9), .int (iv q), .int (iv rc), .int (iv se)]) (rest := [.ref q5, .ref aL]) hC hE hP hD hS hl.1 (c_L_init l ε X (L ++ [q5]) (va_up f q5 (.inr (2, [.int (iv 0), .int (iv 0), .null, .int (iv 0), .int (iv 0), .int (iv 0)]))) q5 (List.mem_append_right _ (List.mem_singleton.mpr rfl)) (va_up_self _ _ _) x9 y9 q rc se ⟨by omega, by omega⟩ ⟨by omega, by omega⟩ ⟨by omega, by omega⟩ ⟨by omega, by omega⟩) m_14_24 m_15_0 m_4_8 m_15_1 rfl hd_yX1_init rfl ⟨⟨by decide, by decide⟩, by decide, by decide⟩ (Nat.le_of_ble_eq_true rfl) rfl dX4_lamp_73 (fun v ws1 H locs hq hP hD hS => ?_)
    obtain ⟨hv_, f1, s9, hs9, ⟨hfq, hfs⟩, hfo, hw_⟩ := hq
    obtain ⟨g9, hg1, hg2⟩ := hfs
    rw [hw_] at hP hD
    rw [hv_]
    clear hv_ hw_
    dsimp only [Option.toList, List.cons_append, List.nil_append]
    replace hP : WP ε (X ++ va_pl ((L ++ [q5]) ++ [s9]) f1) H := hP
    replace hD : WD ε (X ++ va_pl ((L ++ [q5]) ++ [s9]) f1) := hD
    have kq : KEEP L f ρ ((L ++ [q5]) ++ [s9]) f1 (va_up (va_up ρ q5 (3000 + n 2)) s9 (4000 + n 2)) (fun _ => False) := KEEP.ext (fun b h1 => ⟨(List.mem_append_left _ (List.mem_append_left _ h1)), (hfo b (List.mem_append_left _ h1) (fun hz : b = q5 => hq5 (hz ▸ h1))).trans (va_up_ne _ _ (fun hz : b = q5 => hq5 (hz ▸ h1))), (va_up_ne _ _ (fun hz : b = s9 => hs9 (hz ▸ (List.mem_append_left _ h1)))).trans ((va_up_ne _ _ (fun hz : b = q5 => hq5 (hz ▸ h1))))⟩)
    have hlq := hlL.keep kq (fun z => z) (fun z => z)
    obtain ⟨md_76, ed_76, ho_76, -⟩ := (LISTR.map IP.IN hlq).own
    refine c_callV (pc := 76) (y := yJx4a65c_add_9ea2d) (As := [.ref q5]) (rest := []) hC hE hP hD hS hl.1 (c_A_add l ε X ((L ++ [q5]) ++ [s9]) f1 (va_up (va_up ρ q5 (3000 + n 2)) s9 (4000 + n 2)) hlq ⟨by omega, by omega⟩ 2 (RX1, TX1, 6) rfl (by decide) (by decide) (fun j a b => by obtain ⟨s8, g8, h1, -⟩ := hpL j a b; have h2 := kq _ _ _ h1 (fun z => z); exact ⟨h2.1.1, _, h2.1.2⟩) q5 _ (List.mem_append_left _ (List.mem_append_right _ (List.mem_singleton.mpr rfl))) hfq) m_6_22 m_6_23 m_6_24 m_0_24 m_7_0 ho_76 rfl hd_yJx4a65c_add_9ea2d rfl ⟨⟨by decide, by decide⟩, by decide, by decide⟩ (Nat.le_of_ble_eq_true rfl) rfl dX4_lamp_76 kxN (fun v ws1 H locs hq hP hD hS => ?_)
    obtain ⟨hv_, L2, f2, ρ2, hw_, hk2, hl2⟩ := hq
    rw [hw_] at hP hD
    rw [hv_]
    clear hv_ hw_
    dsimp only [Option.toList, List.cons_append, List.nil_append]
    have hx2 := hk2 _ _ _ (kq _ _ _ hx0 (fun z => z)) (by decide)
    refine lv_pop (pc := 79) hx hb dX4_lamp_79 rfl ?_
    have hR9 : RX (IP L2 f2 ρ2) ε x (va_up n 2 (n 2 + 1)) (GL n G x9 y9 q rc se) := RXC.lamp hRC hN hz7 hz10 kq ⟨⟨(List.mem_append_left _ (List.mem_append_right _ (List.mem_singleton.mpr rfl))), hfq⟩, (va_up_ne _ _ (fun hz : q5 = s9 => hs9 (hz ▸ (List.mem_append_right _ (List.mem_singleton.mpr rfl))))).trans (va_up_self _ _ _)⟩ ⟨⟨(List.mem_append_right _ (List.mem_singleton.mpr rfl)), hg1⟩, va_up_self _ _ _⟩ hg2 hk2 hl2
    have hN9 : NB (va_up n 2 (n 2 + 1)) := ⟨⟨hnb.1.1, by show 0 ≤ n 2 + 1 ∧ n 2 + 1 ≤ 12; omega⟩, hnb.2⟩
    refine lv_aload_n (pc := 80) hx hb dX4_lamp_80 rfl (lv_at hl 1 rfl) ?_
    refine lv_iload (pc := 81) hx hb dX4_lamp_81 (lv_at hl 0 rfl) ?_
    refine c_callV (pc := 83) (y := yX4_tell) (As := [.int (iv (n 2))]) (rest := []) hC hE hP hD hS hl.1 (c_W_tell l ε X L2 f2 ρ2 x (va_up n 2 (n 2 + 1)) (GL n G x9 y9 q rc se) hR9 hN9 (n 2) ⟨hnb.1.2.1, by show n 2 < n 2 + 1; omega⟩ (by show 0 ≤ va_up (G 6) (n 2).toNat q (n 2).toNat ∧ va_up (G 6) (n 2).toNat q (n 2).toNat < 31; rw [up_at]; omega) (Or.inl hz10) h3) m_10_3 m_10_4 m_10_5 m_0_2 m_10_6 (in_pl hx2.1.1 hx2.1.2) rfl hd_yX4_tell rfl ⟨⟨by decide, by decide⟩, by decide, by decide⟩ (Nat.le_of_ble_eq_true rfl) rfl dX4_lamp_83 kxN (fun v ws1 H locs hq hP hD hS => ?_)
    obtain ⟨hv_, hz_⟩ := hq
    rw [hv_]
    clear hv_
    dsimp only [Option.toList, List.cons_append, List.nil_append]
    refine lv_pop (pc := 86) hx hb dX4_lamp_86 rfl ?_
    refine lv_iload (pc := 87) hx hb dX4_lamp_87 (lv_at hl 0 rfl) ?_
    refine c_iret (pc := 89) hC hQ hP hD hS (by decide) (by decide) dX4_lamp_89 ?_
    exact ⟨⟨by omega, by omega⟩, rfl, hz_⟩
  · have c_36_ := c_36
    refine c_throw (pc := 39) (cls := nISE) (text := "there are all the lamps that can be") (ik := 37) (is := 89) (ic := 41) hC hst hQ hE hP hD hS hl.1 (Or.inl ⟨rfl, rfl, rfl⟩) (by decide) dX4_lamp_39 dX4_lamp_42 dX4_lamp_43 dX4_lamp_45 dX4_lamp_48 ⟨by decide, by decide, by decide, by decide⟩ ⟨by decide, by decide⟩ ?_
    exact Or.inr (Or.inr ⟨⟨by omega, by omega⟩, rfl, rfl⟩)
