abbrev rm_c_W_change : Room := { frames := 9, cells := 8, slots := 1100, locals := 400 }
set_option maxRecDepth 100000 in
set_option maxHeartbeats 4000000 in
theorem c_W_change (l : Launch) (ε : EV) (X : va_W) (L : List Nat) (f : Nat → va_E) (hst : l.stackTraces = false) (ρ : Nat → Int) (x : Nat) (n : Nat → Int) (G : Nat → Nat → Int) (hR : RX (IP L f ρ) ε x n G) (hN : NB n) (hL : VLam n G) (h3 : n 3 < 512) (i q bg : Int) (ri : rg i) (rq : rg q) (rb : rg bg) : CT l yX4_change cX4_change 5 (some .int) rm_c_W_change ε [.ref x, .int (iv i), .int (iv q), .int (iv bg)] (X ++ va_pl L f) (fun v w => (((0 ≤ i ∧ i < n 2) ∧ (0 ≤ q ∧ q < n 1)) ∧ (0 ≤ bg ∧ bg ≤ 59)) ∧ v = some (.int (iv (n 3))) ∧ ∃ (L2 : List Nat) (f2 : Nat → va_E) (ρ2 : Nat → Int), w = X ++ va_pl L2 f2 ∧ RX (IP L2 f2 ρ2) ε x (va_up n 3 (n 3 + 1)) (va_up (va_up (va_up G 6 (va_up (G 6) i.toNat q)) 7 (va_up ((va_up G 6 (va_up (G 6) i.toNat q)) 7) i.toNat bg)) 11 (va_up ((va_up (va_up G 6 (va_up (G 6) i.toNat q)) 7 (va_up ((va_up G 6 (va_up (G 6) i.toNat q)) 7) i.toNat bg)) 11) ((n 3).toNat) (NV (va_up (va_up G 6 (va_up (G 6) i.toNat q)) 7 (va_up ((va_up G 6 (va_up (G 6) i.toNat q)) 7) i.toNat bg)) i)))) (fun E w => (¬ ((0 ≤ i ∧ i < n 2) ∧ (0 ≤ q ∧ q < n 1)) ∧ E = nIOE ∧ w = X ++ va_pl L f) ∨ ((((0 ≤ i ∧ i < n 2) ∧ (0 ≤ q ∧ q < n 1)) ∧ ¬ (0 ≤ bg ∧ bg ≤ 59)) ∧ E = nIAE ∧ w = X ++ va_pl L f)) := by
  refine CT.intro (by decide +kernel) (Nat.le_of_ble_eq_true rfl) ?_
  intro p9 e9 s9 m9 a9 bl9 me9 c9 ls Q9 hC hE hP hD hl hQ
  have hx := hC.1
  have hb := hC.2.1
  have hK := hE.K
  have hS : WS ε s9.heap s9.heap [] := va_S.rf
  have hl : lv_has ls 5 [(0, .ref x), (1, .int (iv i)), (2, .int (iv q)), (3, .int (iv bg))] := hl
  obtain ⟨H, hH⟩ : ∃ H, H = s9.heap := ⟨_, rfl⟩
  obtain ⟨locs, hlo⟩ : ∃ z : List Loc, z = [] := ⟨_, rfl⟩
  rw [← hH] at hP ⊢
  have hS : WS ε s9.heap H locs := by rw [hH, hlo]; exact hS
  rw [← hlo]
  clear hH hlo
  obtain ⟨dr, aP, aL, aT, aC, Dr, eP, eL, eT, eC, hRC⟩ := id hR
  obtain ⟨hx0, hxD, hlP, hlL, hlT, hlC, hpP, hpL, hpT, hpC⟩ := id hRC
  have hnb := hN
  have hxd : x ≠ dr := fun z => by have h1 := hx0.1.2; rw [z, hxD.1.1.2] at h1; cases h1
  refine lv_aload_n (pc := 0) hx hb dX4_change_0 rfl (lv_at hl 0 rfl) ?_
  refine lv_iload_n (pc := 1) hx hb dX4_change_1 rfl (lv_at hl 1 rfl) ?_
  refine c_callV (pc := 2) (y := yX4_lampAt) (As := [.int (iv i)]) (rest := []) hC hE hP hD hS hl.1 (c_E_lampAt l ε (X ++ va_pl L f) hst x n G dr aP aL aT aC Dr eP eL eT eC (RXC.map IP.IN hRC) hN (i) ⟨by omega, by omega⟩) m_9_20 m_9_21 m_9_22 m_0_2 m_9_23 (in_pl hx0.1.1 hx0.1.2) rfl hd_yX4_lampAt rfl ⟨⟨by decide, by decide⟩, by decide, by decide⟩ (Nat.le_of_ble_eq_true rfl) rfl dX4_change_2 (fun E ce q9 ws1 H1 locs1 hq hP hD hS h1 h2 h3 => c_out hC hQ hP hD hS h1 h2 h3 (by decide) (by decide) (Or.inl ⟨fun z => hq.1 z.1, hq.2⟩)) (fun v ws1 H locs hq hP hD hS => ?_)
  obtain ⟨hc_w1, hv_, hw_⟩ := hq
  rw [hw_] at hP hD
  rw [hv_]
  clear hv_ hw_
  dsimp only [Option.toList, List.cons_append, List.nil_append]
  obtain ⟨s_w1, g_w1, ho_w1, hs_w1, hg_w1⟩ := hpL (i) hc_w1.1 hc_w1.2
  refine lv_astore (lv' := [(4, .ref ((eL i))), (0, .ref x), (1, .int (iv i)), (2, .int (iv q)), (3, .int (iv bg))]) (pc := 5) hx hb dX4_change_5 hl (by decide) rfl (fun ls hl => ?_)
  have hxl : x ≠ (eL i) := fun z => by have h1 := hx0.2; rw [z, ho_w1.2] at h1; omega
  have hlv := hL.i (q := i) (by omega) (by omega)
  have hlv9 := id hlv
  obtain ⟨v4, v5, v6, v7, v8, vz, vf⟩ := hlv9
  refine lv_aload_n (pc := 7) hx hb dX4_change_7 rfl (lv_at hl 1 rfl) ?_
  refine lv_iload_n (pc := 8) hx hb dX4_change_8 rfl (lv_at hl 3 rfl) ?_
  refine c_callV (pc := 9) (y := yX4_requirePattern) (As := [.int (iv q)]) (rest := []) hC hE hP hD hS hl.1 (c_R_reqP l ε (X ++ va_pl L f) hst x n G (RX.map IP.IN hR) hN (q) ⟨by omega, by omega⟩) m_3_14 m_3_15 m_3_16 m_0_2 m_3_17 (in_pl hx0.1.1 hx0.1.2) rfl hd_yX4_requirePattern rfl ⟨⟨by decide, by decide⟩, by decide, by decide⟩ (Nat.le_of_ble_eq_true rfl) rfl dX4_change_9 (fun E ce q9 ws1 H1 locs1 hq hP hD hS h1 h2 h3 => c_out hC hQ hP hD hS h1 h2 h3 (by decide) (by decide) (Or.inl ⟨fun z => hq.1 z.2, hq.2⟩)) (fun v ws1 H locs hq hP hD hS => ?_)
  obtain ⟨hg2, hv_, hw_⟩ := hq
  rw [hw_] at hP hD
  rw [hv_]
  clear hv_ hw_
  dsimp only [Option.toList, List.cons_append, List.nil_append]
  refine lv_iload_n (pc := 12) hx hb dX4_change_12 rfl (lv_at hl 4 rfl) ?_
  refine lv_iconst (pc := 13) (v := iv 0) hx hb dX4_change_13 rfl ?_
  refine lv_bipush (pc := 14) (v := iv 59) hx hb dX4_change_14 (by decide) ?_
  refine c_callS (pc := 16) (y := yX4_requireWithin) (As := [.int (iv bg), .int (iv 0), .int (iv 59)]) (rest := []) hC hE hP hD hS hl.1 (c_R_within l ε (X ++ va_pl L f) hst (bg) (0) (59) ⟨by omega, by omega⟩ ⟨by omega, by omega⟩ ⟨by omega, by omega⟩) m_5_5 m_5_6 m_0_2 m_5_7 hd_yX4_requireWithin rfl ⟨⟨by decide, by decide⟩, by decide, by decide⟩ (Nat.le_of_ble_eq_true rfl) rfl dX4_change_16 (fun E ce q9 ws1 H1 locs1 hq hP hD hS h1 h2 h3 => c_out hC hQ hP hD hS h1 h2 h3 (by decide) (by decide) (Or.inr ⟨⟨by omega, fun z => hq.1 z⟩, hq.2⟩)) (fun v ws1 H locs hq hP hD hS => ?_)
  obtain ⟨hg3, hv_, hw_⟩ := hq
  rw [hw_] at hP hD
  rw [hv_]
  clear hv_ hw_
  dsimp only [Option.toList, List.cons_append, List.nil_append]
  refine lv_aload (pc := 19) hx hb dX4_change_19 (lv_at hl 0 rfl) ?_
  refine lv_iload_n (pc := 21) hx hb dX4_change_21 rfl (lv_at hl 3 rfl) ?_
  refine p_put (pc := 22) (ci := 2) (T := TX1) (N := 6) (fs := [.int (iv (G 4 i.toNat)), .int (iv (G 5 i.toNat)), .ref s_w1, .int (iv (G 6 i.toNat)), .int (iv (G 7 i.toNat)), .int (iv (G 10 i.toNat))]) hC hK hP hD hS ho_w1.1.1 ho_w1.1.2 rfl (fun w h => wt_4 w h) tyX1 tyX1_ok nmX1 3 (by decide) m_3_8 (fun _ h => h) rfl (v := .int (iv q)) rfl rfl (Nat.le_of_ble_eq_true rfl) dX4_change_22 (fun H locs hP hD hS => ?_)
  replace hP : WP ε (X ++ va_pl L (va_up f ((eL i)) (.inr (2, [.int (iv (G 4 i.toNat)), .int (iv (G 5 i.toNat)), .ref s_w1, .int (iv q), .int (iv (G 7 i.toNat)), .int (iv (G 10 i.toNat))])))) H := hP
  replace hD : WD ε (X ++ va_pl L (va_up f ((eL i)) (.inr (2, [.int (iv (G 4 i.toNat)), .int (iv (G 5 i.toNat)), .ref s_w1, .int (iv q), .int (iv (G 7 i.toNat)), .int (iv (G 10 i.toNat))])))) := hD
  refine lv_aload (pc := 25) hx hb dX4_change_25 (lv_at hl 0 rfl) ?_
  refine lv_iload_n (pc := 27) hx hb dX4_change_27 rfl (lv_at hl 4 rfl) ?_
  refine p_put (pc := 28) (ci := 2) (T := TX1) (N := 6) (fs := [.int (iv (G 4 i.toNat)), .int (iv (G 5 i.toNat)), .ref s_w1, .int (iv q), .int (iv (G 7 i.toNat)), .int (iv (G 10 i.toNat))]) hC hK hP hD hS ho_w1.1.1 (va_up_self _ _ _) rfl (fun w h => wt_4 w h) tyX1 tyX1_ok nmX1 4 (by decide) m_9_19 (fun _ h => h) rfl (v := .int (iv bg)) rfl rfl (Nat.le_of_ble_eq_true rfl) dX4_change_28 (fun H locs hP hD hS => ?_)
  replace hP : WP ε (X ++ va_pl L (va_up (va_up f ((eL i)) (.inr (2, [.int (iv (G 4 i.toNat)), .int (iv (G 5 i.toNat)), .ref s_w1, .int (iv q), .int (iv (G 7 i.toNat)), .int (iv (G 10 i.toNat))]))) ((eL i)) (.inr (2, [.int (iv (G 4 i.toNat)), .int (iv (G 5 i.toNat)), .ref s_w1, .int (iv q), .int (iv bg), .int (iv (G 10 i.toNat))])))) H := hP
  replace hD : WD ε (X ++ va_pl L (va_up (va_up f ((eL i)) (.inr (2, [.int (iv (G 4 i.toNat)), .int (iv (G 5 i.toNat)), .ref s_w1, .int (iv q), .int (iv (G 7 i.toNat)), .int (iv (G 10 i.toNat))]))) ((eL i)) (.inr (2, [.int (iv (G 4 i.toNat)), .int (iv (G 5 i.toNat)), .ref s_w1, .int (iv q), .int (iv bg), .int (iv (G 10 i.toNat))])))) := hD
  rw [up_up] at hP hD
  replace hP : WP ε (X ++ va_pl L (va_up f ((eL i)) (.inr (2, [.int (iv (G 4 i.toNat)), .int (iv (G 5 i.toNat)), .ref s_w1, .int (iv q), .int (iv bg), .int (iv (G 10 i.toNat))])))) H := hP
  replace hD : WD ε (X ++ va_pl L (va_up f ((eL i)) (.inr (2, [.int (iv (G 4 i.toNat)), .int (iv (G 5 i.toNat)), .ref s_w1, .int (iv q), .int (iv bg), .int (iv (G 10 i.toNat))])))) := hD
  have hRC9 : RXC (IP L (va_up f ((eL i)) (.inr (2, [.int (iv (G 4 i.toNat)), .int (iv (G 5 i.toNat)), .ref s_w1, .int (iv q), .int (iv bg), .int (iv (G 10 i.toNat))]))) ρ) ε x n (va_up (va_up G 6 (va_up (G 6) i.toNat q)) 7 (va_up ((va_up G 6 (va_up (G 6) i.toNat q)) 7) i.toNat bg)) dr aP aL aT aC Dr eP eL eT eC := RXC.lampset hRC hN ⟨by omega, by omega⟩ ho_w1 hs_w1 hg_w1 (fun k h1 h2 h3 => (va_up_ne _ _ h2).trans (va_up_ne _ _ h1)) (fun j h1 h2 => ⟨by show va_up (G 6) i.toNat q j.toNat = G 6 j.toNat; exact va_up_ne _ _ (by omega), by show va_up (G 7) i.toNat bg j.toNat = G 7 j.toNat; exact va_up_ne _ _ (by omega), rfl⟩) (va_up_self _ _ _) (va_up_self _ _ _) rfl
  refine lv_aload_n (pc := 31) hx hb dX4_change_31 rfl (lv_at hl 1 rfl) ?_
  refine lv_iload_n (pc := 32) hx hb dX4_change_32 rfl (lv_at hl 2 rfl) ?_
  refine c_callV (pc := 33) (y := yX4_tell) (As := [.int (iv i)]) (rest := []) hC hE hP hD hS hl.1 (c_W_tell l ε X L (va_up f ((eL i)) (.inr (2, [.int (iv (G 4 i.toNat)), .int (iv (G 5 i.toNat)), .ref s_w1, .int (iv q), .int (iv bg), .int (iv (G 10 i.toNat))]))) ρ x n (va_up (va_up G 6 (va_up (G 6) i.toNat q)) 7 (va_up ((va_up G 6 (va_up (G 6) i.toNat q)) 7) i.toNat bg)) hRC9.mk hN i ⟨by omega, by omega⟩ (by show 0 ≤ va_up (G 6) i.toNat q i.toNat ∧ va_up (G 6) i.toNat q i.toNat < 31; rw [up_at]; omega) vf h3) m_10_3 m_10_4 m_10_5 m_0_2 m_10_6 (in_pl hx0.1.1 ((va_up_ne _ _ hxl).trans hx0.1.2)) rfl hd_yX4_tell rfl ⟨⟨by decide, by decide⟩, by decide, by decide⟩ (Nat.le_of_ble_eq_true rfl) rfl dX4_change_33 kxN (fun v ws1 H locs hq hP hD hS => ?_)
  obtain ⟨hv_, hz_⟩ := hq
  rw [hv_]
  clear hv_
  dsimp only [Option.toList, List.cons_append, List.nil_append]
  refine c_iret (pc := 36) hC hQ hP hD hS (by decide) (by decide) dX4_change_36 ?_
  exact ⟨⟨by omega, by omega⟩, rfl, hz_⟩

abbrev rm_c_W_fail : Room := { frames := 9, cells := 8, slots := 1100, locals := 400 }
set_option maxRecDepth 100000 in
set_option maxHeartbeats 4000000 in
theorem c_W_fail (l : Launch) (ε : EV) (X : va_W) (L : List Nat) (f : Nat → va_E) (hst : l.stackTraces = false) (ρ : Nat → Int) (x : Nat) (n : Nat → Int) (G : Nat → Nat → Int) (hR : RX (IP L f ρ) ε x n G) (hN : NB n) (hL : VLam n G) (h3 : n 3 < 512) (i fb : Int) (ri : rg i) (hfb : fb = 0 ∨ fb = 1) : CT l yX4_fail cX4_fail 4 (some .int) rm_c_W_fail ε [.ref x, .int (iv i), .int (iv fb)] (X ++ va_pl L f) (fun v w => ((0 ≤ i ∧ i < n 2) ∧ G 10 i.toNat ≠ fb) ∧ v = some (.int (iv (n 3))) ∧ ∃ (L2 : List Nat) (f2 : Nat → va_E) (ρ2 : Nat → Int), w = X ++ va_pl L2 f2 ∧ RX (IP L2 f2 ρ2) ε x (va_up n 3 (n 3 + 1)) (va_up (va_up G 10 (va_up (G 10) i.toNat fb)) 11 (va_up ((va_up G 10 (va_up (G 10) i.toNat fb)) 11) ((n 3).toNat) (NV (va_up G 10 (va_up (G 10) i.toNat fb)) i)))) (fun E w => (¬ (0 ≤ i ∧ i < n 2) ∧ E = nIOE ∧ w = X ++ va_pl L f) ∨ (((0 ≤ i ∧ i < n 2) ∧ G 10 i.toNat = fb) ∧ E = nISE ∧ w = X ++ va_pl L f)) := by
  refine CT.intro (by decide +kernel) (Nat.le_of_ble_eq_true rfl) ?_
  intro p9 e9 s9 m9 a9 bl9 me9 c9 ls Q9 hC hE hP hD hl hQ
  have hx := hC.1
  have hb := hC.2.1
  have hK := hE.K
  have hS : WS ε s9.heap s9.heap [] := va_S.rf
  have hl : lv_has ls 4 [(0, .ref x), (1, .int (iv i)), (2, .int (iv fb))] := hl
  obtain ⟨H, hH⟩ : ∃ H, H = s9.heap := ⟨_, rfl⟩
  obtain ⟨locs, hlo⟩ : ∃ z : List Loc, z = [] := ⟨_, rfl⟩
  rw [← hH] at hP ⊢
  have hS : WS ε s9.heap H locs := by rw [hH, hlo]; exact hS
  rw [← hlo]
  clear hH hlo
  obtain ⟨dr, aP, aL, aT, aC, Dr, eP, eL, eT, eC, hRC⟩ := id hR
  obtain ⟨hx0, hxD, hlP, hlL, hlT, hlC, hpP, hpL, hpT, hpC⟩ := id hRC
  have hnb := hN
  have hxd : x ≠ dr := fun z => by have h1 := hx0.1.2; rw [z, hxD.1.1.2] at h1; cases h1
  refine lv_aload_n (pc := 0) hx hb dX4_fail_0 rfl (lv_at hl 0 rfl) ?_
  refine lv_iload_n (pc := 1) hx hb dX4_fail_1 rfl (lv_at hl 1 rfl) ?_
  refine c_callV (pc := 2) (y := yX4_lampAt) (As := [.int (iv i)]) (rest := []) hC hE hP hD hS hl.1 (c_E_lampAt l ε (X ++ va_pl L f) hst x n G dr aP aL aT aC Dr eP eL eT eC (RXC.map IP.IN hRC) hN (i) ⟨by omega, by omega⟩) m_9_20 m_9_21 m_9_22 m_0_2 m_9_23 (in_pl hx0.1.1 hx0.1.2) rfl hd_yX4_lampAt rfl ⟨⟨by decide, by decide⟩, by decide, by decide⟩ (Nat.le_of_ble_eq_true rfl) rfl dX4_fail_2 (fun E ce q9 ws1 H1 locs1 hq hP hD hS h1 h2 h3 => c_out hC hQ hP hD hS h1 h2 h3 (by decide) (by decide) (Or.inl hq)) (fun v ws1 H locs hq hP hD hS => ?_)
  obtain ⟨hc_w1, hv_, hw_⟩ := hq
  rw [hw_] at hP hD
  rw [hv_]
  clear hv_ hw_
  dsimp only [Option.toList, List.cons_append, List.nil_append]
  obtain ⟨s_w1, g_w1, ho_w1, hs_w1, hg_w1⟩ := hpL (i) hc_w1.1 hc_w1.2
  refine lv_astore_n (lv' := [(3, .ref ((eL i))), (0, .ref x), (1, .int (iv i)), (2, .int (iv fb))]) (pc := 5) hx hb dX4_fail_5 rfl hl (by decide) rfl (fun ls hl => ?_)
  have hxl : x ≠ (eL i) := fun z => by have h1 := hx0.2; rw [z, ho_w1.2] at h1; omega
  have hlv := hL.i (q := i) (by omega) (by omega)
  have hlv9 := id hlv
  obtain ⟨v4, v5, v6, v7, v8, vz, vf⟩ := hlv9
  refine lv_aload_n (pc := 6) hx hb dX4_fail_6 rfl (lv_at hl 0 rfl) ?_
  refine r_get (pc := 7) hC hK hP (in_pl ho_w1.1.1 ho_w1.1.2) (hc := rfl) (fun w h => wt_4 w h) 5 (by decide) m_10_10 (fun _ h => h) (v := .int (iv (G 10 i.toNat))) rfl dX4_fail_7 ?_
  refine lv_iload_n (pc := 10) hx hb dX4_fail_10 rfl (lv_at hl 3 rfl) ?_
  refine r_icmp_ne (pc := 11) (a := G 10 i.toNat) (b := fb) hx hb dX4_fail_11 (tgt := 24) (by decide) ⟨by omega, by omega⟩ ⟨by omega, by omega⟩ (fun c_11 => ?_) (fun c_11 => ?_)
  · have c_11_ := c_11
    refine lv_aload_n (pc := 24) hx hb dX4_fail_24 rfl (lv_at hl 0 rfl) ?_
    refine lv_iload_n (pc := 25) hx hb dX4_fail_25 rfl (lv_at hl 3 rfl) ?_
    refine p_put (pc := 26) (ci := 2) (T := TX1) (N := 6) (fs := [.int (iv (G 4 i.toNat)), .int (iv (G 5 i.toNat)), .ref s_w1, .int (iv (G 6 i.toNat)), .int (iv (G 7 i.toNat)), .int (iv (G 10 i.toNat))]) hC hK hP hD hS ho_w1.1.1 ho_w1.1.2 rfl (fun w h => wt_4 w h) tyX1 tyX1_ok nmX1 5 (by decide) m_10_10 (fun _ h => h) rfl (v := .int (iv fb)) (by rcases hfb with h | h <;> rw [h] <;> rfl) (by rcases hfb with h | h <;> rw [h] <;> rfl) (Nat.le_of_ble_eq_true rfl) dX4_fail_26 (fun H locs hP hD hS => ?_)
    replace hP : WP ε (X ++ va_pl L (va_up f ((eL i)) (.inr (2, [.int (iv (G 4 i.toNat)), .int (iv (G 5 i.toNat)), .ref s_w1, .int (iv (G 6 i.toNat)), .int (iv (G 7 i.toNat)), .int (iv fb)])))) H := hP
    replace hD : WD ε (X ++ va_pl L (va_up f ((eL i)) (.inr (2, [.int (iv (G 4 i.toNat)), .int (iv (G 5 i.toNat)), .ref s_w1, .int (iv (G 6 i.toNat)), .int (iv (G 7 i.toNat)), .int (iv fb)])))) := hD
    have hRC9 : RXC (IP L (va_up f ((eL i)) (.inr (2, [.int (iv (G 4 i.toNat)), .int (iv (G 5 i.toNat)), .ref s_w1, .int (iv (G 6 i.toNat)), .int (iv (G 7 i.toNat)), .int (iv fb)]))) ρ) ε x n (va_up G 10 (va_up (G 10) i.toNat fb)) dr aP aL aT aC Dr eP eL eT eC := RXC.lampset hRC hN ⟨by omega, by omega⟩ ho_w1 hs_w1 hg_w1 (fun k h1 h2 h3 => va_up_ne _ _ h3) (fun j h1 h2 => ⟨rfl, rfl, by show va_up (G 10) i.toNat fb j.toNat = G 10 j.toNat; exact va_up_ne _ _ (by omega)⟩) rfl rfl (va_up_self _ _ _)
    refine lv_aload_n (pc := 29) hx hb dX4_fail_29 rfl (lv_at hl 1 rfl) ?_
    refine lv_iload_n (pc := 30) hx hb dX4_fail_30 rfl (lv_at hl 2 rfl) ?_
    refine c_callV (pc := 31) (y := yX4_tell) (As := [.int (iv i)]) (rest := []) hC hE hP hD hS hl.1 (c_W_tell l ε X L (va_up f ((eL i)) (.inr (2, [.int (iv (G 4 i.toNat)), .int (iv (G 5 i.toNat)), .ref s_w1, .int (iv (G 6 i.toNat)), .int (iv (G 7 i.toNat)), .int (iv fb)]))) ρ x n (va_up G 10 (va_up (G 10) i.toNat fb)) hRC9.mk hN i ⟨by omega, by omega⟩ (by show 0 ≤ G 6 i.toNat ∧ G 6 i.toNat < 31; omega) (by show va_up (G 10) i.toNat fb i.toNat = 0 ∨ va_up (G 10) i.toNat fb i.toNat = 1; rw [up_at]; exact hfb) h3) m_10_3 m_10_4 m_10_5 m_0_2 m_10_6 (in_pl hx0.1.1 ((va_up_ne _ _ hxl).trans hx0.1.2)) rfl hd_yX4_tell rfl ⟨⟨by decide, by decide⟩, by decide, by decide⟩ (Nat.le_of_ble_eq_true rfl) rfl dX4_fail_31 kxN (fun v ws1 H locs hq hP hD hS => ?_)
    obtain ⟨hv_, hz_⟩ := hq
    rw [hv_]
    clear hv_
    dsimp only [Option.toList, List.cons_append, List.nil_append]
    refine c_iret (pc := 34) hC hQ hP hD hS (by decide) (by decide) dX4_fail_34 ?_
    exact ⟨⟨by omega, by omega⟩, rfl, hz_⟩
  · have c_11_ := c_11
    refine c_throw (pc := 14) (cls := nISE) (text := "the lamp has failed already, or has not") (ik := 37) (is := 114) (ic := 41) hC hst hQ hE hP hD hS hl.1 (Or.inl ⟨rfl, rfl, rfl⟩) (by decide) dX4_fail_14 dX4_fail_17 dX4_fail_18 dX4_fail_20 dX4_fail_23 ⟨by decide, by decide, by decide, by decide⟩ ⟨by decide, by decide⟩ ?_
    exact Or.inr ⟨⟨by omega, by omega⟩, rfl, rfl⟩
