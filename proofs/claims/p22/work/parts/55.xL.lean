abbrev rm_c_W_pattern : Room := { frames := 8, cells := 5, slots := 3100, locals := 400 }
set_option maxRecDepth 100000 in
set_option maxHeartbeats 4000000 in
theorem c_W_pattern (l : Launch) (ε : EV) (X : va_W) (L : List Nat) (f : Nat → va_E) (hst : l.stackTraces = false) (ρ : Nat → Int) (x : Nat) (n : Nat → Int) (G : Nat → Nat → Int) (hR : RX (IP L f ρ) ε x n G) (hN : NB n) (hD0 : VDra n G) (hV : VPat n G) (hz : G 3 (n 1).toNat = 0) : CT l yX4_pattern cX4_pattern 1 (some .int) rm_c_W_pattern ε [.ref x] (X ++ va_pl L f) (fun v w => ((n 0 = 2 ∨ n 0 = 4 ∨ n 0 = 6) ∧ n 1 < 20) ∧ v = some (.int (iv (n 1))) ∧ ∃ (L2 : List Nat) (f2 : Nat → va_E) (ρ2 : Nat → Int), w = X ++ va_pl L2 f2 ∧ RX (IP L2 f2 ρ2) ε x (va_up (va_up n 0 0) 1 (n 1 + 1)) (GP n G)) (fun E w => ¬ ((n 0 = 2 ∨ n 0 = 4 ∨ n 0 = 6) ∧ n 1 < 20) ∧ E = nISE ∧ w = X ++ va_pl L f) := by
  refine CT.intro (by decide +kernel) (Nat.le_of_ble_eq_true rfl) ?_
  intro p9 e9 s9 m9 a9 bl9 me9 c9 ls Q9 hC hE hP hD hl hQ
  have hx := hC.1
  have hb := hC.2.1
  have hK := hE.K
  have hS : WS ε s9.heap s9.heap [] := va_S.rf
  have hl : lv_has ls 1 [(0, .ref x)] := hl
  obtain ⟨H, hH⟩ : ∃ H, H = s9.heap := ⟨_, rfl⟩
  obtain ⟨locs, hlo⟩ : ∃ z : List Loc, z = [] := ⟨_, rfl⟩
  rw [← hH] at hP ⊢
  have hS : WS ε s9.heap H locs := by rw [hH, hlo]; exact hS
  rw [← hlo]
  clear hH hlo
  obtain ⟨dr, aP, aL, aT, aC, Dr, eP, eL, eT, eC, hRC⟩ := id hR
  obtain ⟨hx0, hxD, hlP, hlL, hlT, hlC, hpP, hpL, hpT, hpC⟩ := id hRC
  have hnb := hN
  have hxd : x ≠ dr := fun z => by have h1 := hx0.1.2; rw [z, hxD.1.1.2] at h1; cases h1
  have hd0 := hD0.1
  refine lv_aload_n (pc := 0) hx hb dX4_pattern_0 rfl (lv_at hl 0 rfl) ?_
  refine r_get (pc := 1) hC hK hP (in_pl hx0.1.1 hx0.1.2) (hc := rfl) (fun w h => wt_0 w h) 1 (by decide) m_0_21 (fun _ h => h) (v := .int (iv (n 0))) rfl dX4_pattern_1 ?_
  refine lv_iconst (pc := 4) (v := iv 2) hx hb dX4_pattern_4 rfl ?_
  refine r_icmp_lt (pc := 5) (a := n 0) (b := 2) hx hb dX4_pattern_5 (tgt := 17) (by decide) ⟨by omega, by omega⟩ ⟨by omega, by omega⟩ (fun c_5 => ?_) (fun c_5 => ?_)
  · have c_5_ := c_5
    refine c_throw (pc := 17) (cls := nISE) (text := "the draft has not 2, 4 or 6 phases") (ik := 37) (is := 44) (ic := 41) hC hst hQ hE hP hD hS hl.1 (Or.inl ⟨rfl, rfl, rfl⟩) (by decide) dX4_pattern_17 dX4_pattern_20 dX4_pattern_21 dX4_pattern_23 dX4_pattern_26 ⟨by decide, by decide, by decide, by decide⟩ ⟨by decide, by decide⟩ ?_
    exact ⟨fun z => by omega, rfl, rfl⟩
  · have c_5_ := c_5
    refine lv_aload_n (pc := 8) hx hb dX4_pattern_8 rfl (lv_at hl 0 rfl) ?_
    refine r_get (pc := 9) hC hK hP (in_pl hx0.1.1 hx0.1.2) (hc := rfl) (fun w h => wt_0 w h) 1 (by decide) m_0_21 (fun _ h => h) (v := .int (iv (n 0))) rfl dX4_pattern_9 ?_
    refine lv_iconst (pc := 12) (v := iv 2) hx hb dX4_pattern_12 rfl ?_
    refine r_irem (pc := 13) (a := n 0) (b := 2) hx hb dX4_pattern_13 ⟨⟨by omega, by omega⟩, by omega, by omega⟩ ?_
    have hm_13 := Int.emod_nonneg (n 0) (show 2 ≠ 0 by omega)
    have hn_13 := Int.emod_lt_of_pos (n 0) (show 0 < 2 by omega)
    refine r_if_eq (pc := 14) (a := (n 0) % 2) hx hb dX4_pattern_14 (tgt := 27) (by decide) ⟨by omega, by omega⟩ (fun c_14 => ?_) (fun c_14 => ?_)
    · have c_14_ := c_14
      refine lv_aload_n (pc := 27) hx hb dX4_pattern_27 rfl (lv_at hl 0 rfl) ?_
      refine r_get (pc := 28) hC hK hP (in_pl hx0.1.1 hx0.1.2) (hc := rfl) (fun w h => wt_0 w h) 2 (by decide) m_1_0 (fun _ h => h) (v := .ref aP) rfl dX4_pattern_28 ?_
      obtain ⟨md_31, ed_31, ho_31, -⟩ := (LISTR.map IP.IN hlP).own
      refine c_callV (pc := 31) (y := yJx4a65c_size_8abf5) (As := []) (rest := []) hC hE hP hD hS hl.1 (c_A_sizeL l ε (X ++ va_pl L f) (LISTR.map IP.IN hlP)) m_2_3 m_2_4 m_2_5 m_0_24 m_2_6 ho_31 rfl hd_yJx4a65c_size_8abf5 rfl ⟨⟨by decide, by decide⟩, by decide, by decide⟩ (Nat.le_of_ble_eq_true rfl) rfl dX4_pattern_31 kxN (fun v ws1 H locs hq hP hD hS => ?_)
      rw [hq.2] at hP hD
      rw [hq.1]
      dsimp only [Option.toList, List.cons_append, List.nil_append]
      refine lv_bipush (pc := 34) (v := iv 20) hx hb dX4_pattern_34 (by decide) ?_
      refine r_icmp_lt (pc := 36) (a := n 1) (b := 20) hx hb dX4_pattern_36 (tgt := 49) (by decide) ⟨by omega, by omega⟩ ⟨by omega, by omega⟩ (fun c_36 => ?_) (fun c_36 => ?_)
      · have c_36_ := c_36
        refine lv_aload_n (pc := 49) hx hb dX4_pattern_49 rfl (lv_at hl 0 rfl) ?_
        refine r_get (pc := 50) hC hK hP (in_pl hx0.1.1 hx0.1.2) (hc := rfl) (fun w h => wt_0 w h) 2 (by decide) m_1_0 (fun _ h => h) (v := .ref aP) rfl dX4_pattern_50 ?_
        refine p_new (pc := 53) (ci := 4) (fs := [.int (iv 0), .long (jv 0), .null]) (C := RX3) (T := TX3) (N := 3) hC hE hP hD hS rfl (fun w h => wt_3 w h) tyX3 tyX3_ok m_5_14 m_5_15 m_3_23 (fun j hj => by match j, hj with | 0, _ => rfl | 1, _ => rfl | 2, _ => rfl) (by decide) (by decide) dX4_pattern_53 (fun q1 H hq1 hP hD hS => ?_)
        replace hP : WP ε (X ++ va_pl (L ++ [q1]) (va_up f q1 (.inr (4, [.int (iv 0), .long (jv 0), .null])))) H := hP
        replace hD : WD ε (X ++ va_pl (L ++ [q1]) (va_up f q1 (.inr (4, [.int (iv 0), .long (jv 0), .null])))) := hD
        refine lv_dup (pc := 56) hx hb dX4_pattern_56 rfl ?_
        refine lv_aload_n (pc := 57) hx hb dX4_pattern_57 rfl (lv_at hl 0 rfl) ?_
        refine r_get (pc := 58) hC hK hP (in_pl (List.mem_append_left _ hx0.1.1) ((va_up_ne _ _ (fun hz : x = q1 => hq1 (hz ▸ hx0.1.1))).trans hx0.1.2)) (hc := rfl) (fun w h => wt_0 w h) 0 (by decide) m_0_20 (fun _ h => h) (v := .ref dr) rfl dX4_pattern_58 ?_
        refine lv_aload_n (pc := 61) hx hb dX4_pattern_61 rfl (lv_at hl 0 rfl) ?_
        refine r_get (pc := 62) hC hK hP (in_pl (List.mem_append_left _ hx0.1.1) ((va_up_ne _ _ (fun hz : x = q1 => hq1 (hz ▸ hx0.1.1))).trans hx0.1.2)) (hc := rfl) (fun w h => wt_0 w h) 1 (by decide) m_0_21 (fun _ h => h) (v := .int (iv (n 0))) rfl dX4_pattern_62 ?_
        refine c_callS (pc := 65) (y := yJ7_copyOf_59c91) (As := [.ref dr, .int (iv (n 0))]) (rest := [.ref q1, .ref q1, .ref aP]) hC hE hP hD hS hl.1 (c_J_copyI l ε X (L ++ [q1]) (va_up f q1 (.inr (4, [.int (iv 0), .long (jv 0), .null]))) dr 6 Dr (List.mem_append_left _ hxD.1.1.1) ((va_up_ne _ _ (fun hz : dr = q1 => hq1 (hz ▸ hxD.1.1.1))).trans hxD.1.1.2) (n 0) ⟨by omega, by omega⟩ (by decide) hxD.2.2) m_5_16 m_5_17 m_5_18 m_5_19 hd_yJ7_copyOf_59c91 rfl ⟨⟨by decide, by decide⟩, by decide, by decide⟩ (Nat.le_of_ble_eq_true rfl) rfl dX4_pattern_65 kxN (fun v ws1 H locs hq hP hD hS => ?_)
        obtain ⟨q9, g9, hq9, hg9, hgr, hv_, hw_⟩ := hq
        rw [hw_] at hP hD
        rw [hv_]
        clear hv_ hw_
        dsimp only [Option.toList, List.cons_append, List.nil_append]
        replace hP : WP ε (X ++ va_pl ((L ++ [q1]) ++ [q9]) (va_up (va_up f q1 (.inr (4, [.int (iv 0), .long (jv 0), .null]))) q9 (eI ε ((n 0).toNat) g9))) H := hP
        replace hD : WD ε (X ++ va_pl ((L ++ [q1]) ++ [q9]) (va_up (va_up f q1 (.inr (4, [.int (iv 0), .long (jv 0), .null]))) q9 (eI ε ((n 0).toNat) g9))) := hD
        have hG9 : ∀ k : Int, 0 ≤ k → k < ((n 0).toNat : Nat) → 1 ≤ g9 k.toNat ∧ g9 k.toNat ≤ 9 := fun k a b => by rw [hg9 k a (by omega), hxD.2.1 k a (by omega)]; exact hD0.2 k a (by omega)
        refine c_callI (pc := 68) (y := yX3_init) (As := [.ref q9]) (rest := [.ref q1, .ref aP]) hC hE hP hD hS hl.1 (c_P_init l ε X ((L ++ [q1]) ++ [q9]) (va_up (va_up f q1 (.inr (4, [.int (iv 0), .long (jv 0), .null]))) q9 (eI ε ((n 0).toNat) g9)) q1 (List.mem_append_left _ (List.mem_append_right _ (List.mem_singleton.mpr rfl))) ((va_up_ne _ _ (fun hz : q1 = q9 => hq9 (hz ▸ (List.mem_append_right _ (List.mem_singleton.mpr rfl))))).trans (va_up_self _ _ _)) q9 (n 0).toNat g9 (List.mem_append_right _ (List.mem_singleton.mpr rfl)) (va_up_self _ _ _) (fun hz : q1 = q9 => hq9 (hz ▸ (List.mem_append_right _ (List.mem_singleton.mpr rfl)))) (by omega) hG9 hgr) m_6_9 m_6_10 m_3_23 m_6_11 rfl hd_yX3_init rfl ⟨⟨by decide, by decide⟩, by decide, by decide⟩ (Nat.le_of_ble_eq_true rfl) rfl dX4_pattern_68 (fun v ws1 H locs hq hP hD hS => ?_)
        obtain ⟨hv_, f1, s9, hs9, ⟨hfq, hfs⟩, hfo, hw_⟩ := hq
        obtain ⟨E9, hE1, hE2, hE3⟩ := hfs
        rw [hw_] at hP hD
        rw [hv_]
        clear hv_ hw_
        dsimp only [Option.toList, List.cons_append, List.nil_append]
        replace hP : WP ε (X ++ va_pl (((L ++ [q1]) ++ [q9]) ++ [s9]) f1) H := hP
        replace hD : WD ε (X ++ va_pl (((L ++ [q1]) ++ [q9]) ++ [s9]) f1) := hD
        have kq : KEEP L f ρ (((L ++ [q1]) ++ [q9]) ++ [s9]) f1 (va_up (va_up ρ q1 (1000 + n 1)) s9 (2000 + n 1)) (fun _ => False) := KEEP.ext (fun b h1 => ⟨(List.mem_append_left _ (List.mem_append_left _ (List.mem_append_left _ h1))), (hfo b (List.mem_append_left _ (List.mem_append_left _ h1)) (fun hz : b = q1 => hq1 (hz ▸ h1))).trans ((va_up_ne _ _ (fun hz : b = q9 => hq9 (hz ▸ (List.mem_append_left _ h1)))).trans (va_up_ne _ _ (fun hz : b = q1 => hq1 (hz ▸ h1)))), (va_up_ne _ _ (fun hz : b = s9 => hs9 (hz ▸ (List.mem_append_left _ (List.mem_append_left _ h1))))).trans ((va_up_ne _ _ (fun hz : b = q1 => hq1 (hz ▸ h1))))⟩)
        have hlq := hlP.keep kq (fun z => z) (fun z => z)
        obtain ⟨md_71, ed_71, ho_71, -⟩ := (LISTR.map IP.IN hlq).own
        refine c_callV (pc := 71) (y := yJx4a65c_add_9ea2d) (As := [.ref q1]) (rest := []) hC hE hP hD hS hl.1 (c_A_add l ε X (((L ++ [q1]) ++ [q9]) ++ [s9]) f1 (va_up (va_up ρ q1 (1000 + n 1)) s9 (2000 + n 1)) hlq ⟨by omega, by omega⟩ 4 (RX3, TX3, 3) rfl (by decide) (by decide) (fun j a b => by obtain ⟨p9, lg, cy, D, E, h1, -⟩ := hpP j a b; have h2 := kq _ _ _ h1 (fun z => z); exact ⟨h2.1.1, _, h2.1.2⟩) q1 _ (List.mem_append_left _ (List.mem_append_left _ (List.mem_append_right _ (List.mem_singleton.mpr rfl)))) hfq) m_6_22 m_6_23 m_6_24 m_0_24 m_7_0 ho_71 rfl hd_yJx4a65c_add_9ea2d rfl ⟨⟨by decide, by decide⟩, by decide, by decide⟩ (Nat.le_of_ble_eq_true rfl) rfl dX4_pattern_71 kxN (fun v ws1 H locs hq hP hD hS => ?_)
        obtain ⟨hv_, L2, f2, ρ2, hw_, hk2, hl2⟩ := hq
        rw [hw_] at hP hD
        rw [hv_]
        clear hv_ hw_
        dsimp only [Option.toList, List.cons_append, List.nil_append]
        have hx2 := hk2 _ _ _ (kq _ _ _ hx0 (fun z => z)) (by decide)
        refine lv_pop (pc := 74) hx hb dX4_pattern_74 rfl ?_
        refine lv_aload_n (pc := 75) hx hb dX4_pattern_75 rfl (lv_at hl 0 rfl) ?_
        refine lv_iconst (pc := 76) (v := iv 0) hx hb dX4_pattern_76 rfl ?_
        refine p_put (pc := 77) (ci := 5) (T := TX4) (N := 6) (fs := [.ref dr, .int (iv (n 0)), .ref aP, .ref aL, .ref aT, .ref aC]) hC hK hP hD hS hx2.1.1 hx2.1.2 rfl (fun w h => wt_0 w h) tyX4 tyX4_ok nmX4 1 (by decide) m_0_21 (fun _ h => h) rfl (v := .int (iv 0)) rfl rfl (Nat.le_of_ble_eq_true rfl) dX4_pattern_77 (fun H locs hP hD hS => ?_)
        replace hP : WP ε (X ++ va_pl L2 (va_up f2 x (.inr (5, [.ref dr, .int (iv 0), .ref aP, .ref aL, .ref aT, .ref aC])))) H := hP
        replace hD : WD ε (X ++ va_pl L2 (va_up f2 x (.inr (5, [.ref dr, .int (iv 0), .ref aP, .ref aL, .ref aT, .ref aC])))) := hD
        have hl3 := hl2.keep (KEEP.up (e := .inr (5, [.ref dr, .int (iv 0), .ref aP, .ref aL, .ref aT, .ref aC])) hx2.2) (by decide) (by decide)
        refine lv_aload_n (pc := 80) hx hb dX4_pattern_80 rfl (lv_at hl 0 rfl) ?_
        refine r_get (pc := 81) hC hK hP (in_pl hx2.1.1 (va_up_self _ _ _)) (hc := rfl) (fun w h => wt_0 w h) 2 (by decide) m_1_0 (fun _ h => h) (v := .ref aP) rfl dX4_pattern_81 ?_
        obtain ⟨md_84, ed_84, ho_84, -⟩ := (LISTR.map IP.IN hl3).own
        refine c_callV (pc := 84) (y := yJx4a65c_size_8abf5) (As := []) (rest := []) hC hE hP hD hS hl.1 (c_A_sizeL l ε (X ++ va_pl L2 (va_up f2 x (.inr (5, [.ref dr, .int (iv 0), .ref aP, .ref aL, .ref aT, .ref aC])))) (LISTR.map IP.IN hl3)) m_2_3 m_2_4 m_2_5 m_0_24 m_2_6 ho_84 rfl hd_yJx4a65c_size_8abf5 rfl ⟨⟨by decide, by decide⟩, by decide, by decide⟩ (Nat.le_of_ble_eq_true rfl) rfl dX4_pattern_84 kxN (fun v ws1 H locs hq hP hD hS => ?_)
        rw [hq.2] at hP hD
        rw [hq.1]
        dsimp only [Option.toList, List.cons_append, List.nil_append]
        refine lv_iconst (pc := 87) (v := iv 1) hx hb dX4_pattern_87 rfl ?_
        refine r_isub (pc := 88) (a := n 1 + 1) (b := 1) hx hb dX4_pattern_88 ?_
        refine c_iret (pc := 89) hC hQ hP hD hS (by decide) (by decide) dX4_pattern_89 ?_
        exact ⟨⟨by omega, by omega⟩, by rw [show n 1 + 1 - 1 = n 1 by omega], L2, _, ρ2, rfl, RXC.pattern hRC hV hN (by omega) hz kq hg9 hgr hD0.2 ⟨⟨(List.mem_append_left _ (List.mem_append_left _ (List.mem_append_right _ (List.mem_singleton.mpr rfl)))), hfq⟩, (va_up_ne _ _ (fun hz : q1 = s9 => hs9 (hz ▸ (List.mem_append_left _ (List.mem_append_right _ (List.mem_singleton.mpr rfl)))))).trans (va_up_self _ _ _)⟩ ⟨⟨(List.mem_append_right _ (List.mem_singleton.mpr rfl)), hE1⟩, va_up_self _ _ _⟩ hE2 hE3 hk2 hl2⟩
      · have c_36_ := c_36
        refine c_throw (pc := 39) (cls := nISE) (text := "there are all the patterns that can be") (ik := 37) (is := 50) (ic := 41) hC hst hQ hE hP hD hS hl.1 (Or.inl ⟨rfl, rfl, rfl⟩) (by decide) dX4_pattern_39 dX4_pattern_42 dX4_pattern_43 dX4_pattern_45 dX4_pattern_48 ⟨by decide, by decide, by decide, by decide⟩ ⟨by decide, by decide⟩ ?_
        exact ⟨fun z => by omega, rfl, rfl⟩
    · have c_14_ := c_14
      refine c_throw (pc := 17) (cls := nISE) (text := "the draft has not 2, 4 or 6 phases") (ik := 37) (is := 44) (ic := 41) hC hst hQ hE hP hD hS hl.1 (Or.inl ⟨rfl, rfl, rfl⟩) (by decide) dX4_pattern_17 dX4_pattern_20 dX4_pattern_21 dX4_pattern_23 dX4_pattern_26 ⟨by decide, by decide, by decide, by decide⟩ ⟨by decide, by decide⟩ ?_
      exact ⟨fun z => by omega, rfl, rfl⟩
