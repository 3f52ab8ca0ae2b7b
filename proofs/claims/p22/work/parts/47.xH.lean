abbrev rm_c_N_init : Room := { frames := 1, cells := 0, slots := 0, locals := 20 }
set_option maxRecDepth 100000 in
set_option maxHeartbeats 4000000 in
theorem c_N_init (l : Launch) (ε : EV) (X : va_W) (L : List Nat) (f : Nat → va_E) (q : Nat) (hqL : q ∈ L) (hfq : f q = .inr (3, [.int (iv 0), .int (iv 0)])) (la pt : Int) : CT l yX2_init cX2_init 3 none rm_c_N_init ε [.ref q, .int (iv la), .int (iv pt)] (X ++ va_pl L f) (fun v w => v = none ∧ w = X ++ va_pl L (va_up f q (oNo la pt))) NX := by
  refine CT.intro (by decide +kernel) (Nat.le_of_ble_eq_true rfl) ?_
  intro p9 e9 s9 m9 a9 bl9 me9 c9 ls Q9 hC hE hP hD hl hQ
  have hx := hC.1
  have hb := hC.2.1
  have hK := hE.K
  have hS : WS ε s9.heap s9.heap [] := va_S.rf
  have hl : lv_has ls 3 [(0, .ref q), (1, .int (iv la)), (2, .int (iv pt))] := hl
  obtain ⟨H, hH⟩ : ∃ H, H = s9.heap := ⟨_, rfl⟩
  obtain ⟨locs, hlo⟩ : ∃ z : List Loc, z = [] := ⟨_, rfl⟩
  rw [← hH] at hP ⊢
  have hS : WS ε s9.heap H locs := by rw [hH, hlo]; exact hS
  rw [← hlo]
  clear hH hlo
  refine lv_aload_n (pc := 0) hx hb dX2_init_0 rfl (lv_at hl 0 rfl) ?_
  refine r_objInit (pc := 1) hC hl.1 m_10_14 (by decide) (Nat.le_of_ble_eq_true rfl) dX2_init_1 ?_
  refine lv_aload_n (pc := 4) hx hb dX2_init_4 rfl (lv_at hl 0 rfl) ?_
  refine lv_iload_n (pc := 5) hx hb dX2_init_5 rfl (lv_at hl 1 rfl) ?_
  refine p_putF (pc := 6) (ci := 3) (T := TX2) (N := 2) (fs := [.int (iv 0), .int (iv 0)]) hC hK hP hD hS hqL hfq rfl (fun w h => wt_5 w h) tyX2 tyX2_ok nmX2 0 (by decide) m_10_15 (fun _ h => h) rfl rfl rfl (v := .int (iv la)) rfl rfl (Nat.le_of_ble_eq_true rfl) dX2_init_6 (fun H locs hP hD hS => ?_)
  replace hP : WP ε (X ++ va_pl L (va_up f q (.inr (3, [.int (iv la), .int (iv 0)])))) H := hP
  replace hD : WD ε (X ++ va_pl L (va_up f q (.inr (3, [.int (iv la), .int (iv 0)])))) := hD
  refine lv_aload_n (pc := 9) hx hb dX2_init_9 rfl (lv_at hl 0 rfl) ?_
  refine lv_iload_n (pc := 10) hx hb dX2_init_10 rfl (lv_at hl 2 rfl) ?_
  refine p_putF (pc := 11) (ci := 3) (T := TX2) (N := 2) (fs := [.int (iv la), .int (iv 0)]) hC hK hP hD hS hqL (va_up_self _ _ _) rfl (fun w h => wt_5 w h) tyX2 tyX2_ok nmX2 1 (by decide) m_10_16 (fun _ h => h) rfl rfl rfl (v := .int (iv pt)) rfl rfl (Nat.le_of_ble_eq_true rfl) dX2_init_11 (fun H locs hP hD hS => ?_)
  replace hP : WP ε (X ++ va_pl L (va_up (va_up f q (.inr (3, [.int (iv la), .int (iv 0)]))) q (.inr (3, [.int (iv la), .int (iv pt)])))) H := hP
  replace hD : WD ε (X ++ va_pl L (va_up (va_up f q (.inr (3, [.int (iv la), .int (iv 0)]))) q (.inr (3, [.int (iv la), .int (iv pt)])))) := hD
  rw [up_up] at hP hD
  replace hP : WP ε (X ++ va_pl L (va_up f q (.inr (3, [.int (iv la), .int (iv pt)])))) H := hP
  replace hD : WD ε (X ++ va_pl L (va_up f q (.inr (3, [.int (iv la), .int (iv pt)])))) := hD
  refine c_vret (pc := 14) hC hQ hP hD hS (by decide) (by decide) dX2_init_14 ?_
  exact ⟨rfl, rfl⟩

abbrev rm_c_AC_init : Room := { frames := 1, cells := 0, slots := 0, locals := 20 }
set_option maxRecDepth 100000 in
set_option maxHeartbeats 4000000 in
theorem c_AC_init (l : Launch) (ε : EV) (X : va_W) (L : List Nat) (f : Nat → va_E) (q : Nat) (hqL : q ∈ L) (hfq : f q = .inr (0, [.int (iv 0), .null, .int (iv 0)])) : CT l yJxa1e45_init_da8c8 cJxa1e45_init_da8c8 1 none rm_c_AC_init ε [.ref q] (X ++ va_pl L f) (fun v w => v = none ∧ w = X ++ va_pl L f) NX := by
  refine CT.intro (by decide +kernel) (Nat.le_of_ble_eq_true rfl) ?_
  intro p9 e9 s9 m9 a9 bl9 me9 c9 ls Q9 hC hE hP hD hl hQ
  have hx := hC.1
  have hb := hC.2.1
  have hK := hE.K
  have hS : WS ε s9.heap s9.heap [] := va_S.rf
  have hl : lv_has ls 1 [(0, .ref q)] := hl
  obtain ⟨H, hH⟩ : ∃ H, H = s9.heap := ⟨_, rfl⟩
  obtain ⟨locs, hlo⟩ : ∃ z : List Loc, z = [] := ⟨_, rfl⟩
  rw [← hH] at hP ⊢
  have hS : WS ε s9.heap H locs := by rw [hH, hlo]; exact hS
  rw [← hlo]
  clear hH hlo
  refine lv_aload_n (pc := 0) hx hb dJxa1e45_init_da8c8_0 rfl (lv_at hl 0 rfl) ?_
  refine r_objInit (pc := 1) hC hl.1 m_1_18 (by decide) (Nat.le_of_ble_eq_true rfl) dJxa1e45_init_da8c8_1 ?_
  refine c_vret (pc := 4) hC hQ hP hD hS (by decide) (by decide) dJxa1e45_init_da8c8_4 ?_
  exact ⟨rfl, rfl⟩

abbrev rm_c_AB_init : Room := { frames := 2, cells := 0, slots := 0, locals := 50 }
set_option maxRecDepth 100000 in
set_option maxHeartbeats 4000000 in
theorem c_AB_init (l : Launch) (ε : EV) (X : va_W) (L : List Nat) (f : Nat → va_E) (q : Nat) (hqL : q ∈ L) (hfq : f q = .inr (0, [.int (iv 0), .null, .int (iv 0)])) : CT l yJxc12de_init_da8c8 cJxc12de_init_da8c8 1 none rm_c_AB_init ε [.ref q] (X ++ va_pl L f) (fun v w => v = none ∧ w = X ++ va_pl L (va_up f q (.inr (0, [.int (iv 0), .null, .int (iv 0)])))) NX := by
  refine CT.intro (by decide +kernel) (Nat.le_of_ble_eq_true rfl) ?_
  intro p9 e9 s9 m9 a9 bl9 me9 c9 ls Q9 hC hE hP hD hl hQ
  have hx := hC.1
  have hb := hC.2.1
  have hK := hE.K
  have hS : WS ε s9.heap s9.heap [] := va_S.rf
  have hl : lv_has ls 1 [(0, .ref q)] := hl
  obtain ⟨H, hH⟩ : ∃ H, H = s9.heap := ⟨_, rfl⟩
  obtain ⟨locs, hlo⟩ : ∃ z : List Loc, z = [] := ⟨_, rfl⟩
  rw [← hH] at hP ⊢
  have hS : WS ε s9.heap H locs := by rw [hH, hlo]; exact hS
  rw [← hlo]
  clear hH hlo
  refine lv_aload_n (pc := 0) hx hb dJxc12de_init_da8c8_0 rfl (lv_at hl 0 rfl) ?_
  refine c_callI (pc := 1) (y := yJxa1e45_init_da8c8) (As := []) (rest := []) hC hE hP hD hS hl.1 (c_AC_init l ε X L f q hqL hfq) m_1_14 m_1_15 m_1_16 m_1_17 rfl hd_yJxa1e45_init_da8c8 rfl ⟨⟨by decide, by decide⟩, by decide, by decide⟩ (Nat.le_of_ble_eq_true rfl) rfl dJxc12de_init_da8c8_1 (fun v ws1 H locs hq hP hD hS => ?_)
  rw [hq.2] at hP hD
  rw [hq.1]
  dsimp only [Option.toList, List.cons_append, List.nil_append]
  refine lv_aload_n (pc := 4) hx hb dJxc12de_init_da8c8_4 rfl (lv_at hl 0 rfl) ?_
  refine lv_iconst (pc := 5) (v := iv 0) hx hb dJxc12de_init_da8c8_5 rfl ?_
  refine p_put (pc := 6) (ci := 0) (T := TJx4a65c) (N := 3) (fs := [.int (iv 0), .null, .int (iv 0)]) hC hK hP hD hS hqL hfq rfl (fun w h => wt_2 w h) tyJx4a65c tyJx4a65c_ok nmJx4a65c 0 (by decide) m_1_13 (fun _ h => h) rfl (v := .int (iv 0)) rfl rfl (Nat.le_of_ble_eq_true rfl) dJxc12de_init_da8c8_6 (fun H locs hP hD hS => ?_)
  replace hP : WP ε (X ++ va_pl L (va_up f q (.inr (0, [.int (iv 0), .null, .int (iv 0)])))) H := hP
  replace hD : WD ε (X ++ va_pl L (va_up f q (.inr (0, [.int (iv 0), .null, .int (iv 0)])))) := hD
  refine c_vret (pc := 9) hC hQ hP hD hS (by decide) (by decide) dJxc12de_init_da8c8_9 ?_
  exact ⟨rfl, rfl⟩

abbrev rm_c_A_init : Room := { frames := 3, cells := 0, slots := 0, locals := 80 }
set_option maxRecDepth 100000 in
set_option maxHeartbeats 4000000 in
theorem c_A_init (l : Launch) (ε : EV) (X : va_W) (L : List Nat) (f : Nat → va_E) (q : Nat) (hqL : q ∈ L) (hfq : f q = .inr (0, [.int (iv 0), .null, .int (iv 0)])) : CT l yJx4a65c_init_da8c8 cJx4a65c_init_da8c8 1 none rm_c_A_init ε [.ref q] (X ++ va_pl L f) (fun v w => v = none ∧ w = X ++ va_pl L (va_up f q (oAL 0 (ε.2.2.2 0) 0))) NX := by
  refine CT.intro (by decide +kernel) (Nat.le_of_ble_eq_true rfl) ?_
  intro p9 e9 s9 m9 a9 bl9 me9 c9 ls Q9 hC hE hP hD hl hQ
  have hx := hC.1
  have hb := hC.2.1
  have hK := hE.K
  have hS : WS ε s9.heap s9.heap [] := va_S.rf
  have hl : lv_has ls 1 [(0, .ref q)] := hl
  obtain ⟨H, hH⟩ : ∃ H, H = s9.heap := ⟨_, rfl⟩
  obtain ⟨locs, hlo⟩ : ∃ z : List Loc, z = [] := ⟨_, rfl⟩
  rw [← hH] at hP ⊢
  have hS : WS ε s9.heap H locs := by rw [hH, hlo]; exact hS
  rw [← hlo]
  clear hH hlo
  refine lv_aload_n (pc := 0) hx hb dJx4a65c_init_da8c8_0 rfl (lv_at hl 0 rfl) ?_
  refine c_callI (pc := 1) (y := yJxc12de_init_da8c8) (As := []) (rest := []) hC hE hP hD hS hl.1 (c_AB_init l ε X L f q hqL hfq) m_1_9 m_1_10 m_1_11 m_1_12 rfl hd_yJxc12de_init_da8c8 rfl ⟨⟨by decide, by decide⟩, by decide, by decide⟩ (Nat.le_of_ble_eq_true rfl) rfl dJx4a65c_init_da8c8_1 (fun v ws1 H locs hq hP hD hS => ?_)
  rw [hq.2] at hP hD
  rw [hq.1]
  dsimp only [Option.toList, List.cons_append, List.nil_append]
  replace hP : WP ε (X ++ va_pl L (va_up f q (.inr (0, [.int (iv 0), .null, .int (iv 0)])))) H := hP
  replace hD : WD ε (X ++ va_pl L (va_up f q (.inr (0, [.int (iv 0), .null, .int (iv 0)])))) := hD
  refine lv_aload_n (pc := 4) hx hb dJx4a65c_init_da8c8_4 rfl (lv_at hl 0 rfl) ?_
  refine r_empty (pc := 5) hC hE hS dJx4a65c_init_da8c8_5 ?_
  refine p_put (pc := 8) (ci := 0) (T := TJx4a65c) (N := 3) (fs := [.int (iv 0), .null, .int (iv 0)]) hC hK hP hD hS hqL (va_up_self _ _ _) rfl (fun w h => wt_2 w h) tyJx4a65c tyJx4a65c_ok nmJx4a65c 1 (by decide) m_1_8 (fun _ h => h) rfl (v := .ref ((ε.2.2.2 0))) rfl rfl (Nat.le_of_ble_eq_true rfl) dJx4a65c_init_da8c8_8 (fun H locs hP hD hS => ?_)
  replace hP : WP ε (X ++ va_pl L (va_up (va_up f q (.inr (0, [.int (iv 0), .null, .int (iv 0)]))) q (.inr (0, [.int (iv 0), .ref ((ε.2.2.2 0)), .int (iv 0)])))) H := hP
  replace hD : WD ε (X ++ va_pl L (va_up (va_up f q (.inr (0, [.int (iv 0), .null, .int (iv 0)]))) q (.inr (0, [.int (iv 0), .ref ((ε.2.2.2 0)), .int (iv 0)])))) := hD
  rw [up_up] at hP hD
  replace hP : WP ε (X ++ va_pl L (va_up f q (.inr (0, [.int (iv 0), .ref ((ε.2.2.2 0)), .int (iv 0)])))) H := hP
  replace hD : WD ε (X ++ va_pl L (va_up f q (.inr (0, [.int (iv 0), .ref ((ε.2.2.2 0)), .int (iv 0)])))) := hD
  refine c_vret (pc := 11) hC hQ hP hD hS (by decide) (by decide) dJx4a65c_init_da8c8_11 ?_
  exact ⟨rfl, rfl⟩

abbrev rm_c_C_init : Room := { frames := 1, cells := 1, slots := 12, locals := 40 }
set_option maxRecDepth 100000 in
set_option maxHeartbeats 4000000 in
theorem c_C_init (l : Launch) (ε : EV) (X : va_W) (L : List Nat) (f : Nat → va_E) (q : Nat) (hqL : q ∈ L) (hfq : f q = .inr (1, [.null, .int (iv 0)])) : CT l yX0_init cX0_init 1 none rm_c_C_init ε [.ref q] (X ++ va_pl L f) (fun v w => v = none ∧ MADE X L f q (fun si => oCh si 0) (CHP ε) w) NX := by
  refine CT.intro (by decide +kernel) (Nat.le_of_ble_eq_true rfl) ?_
  intro p9 e9 s9 m9 a9 bl9 me9 c9 ls Q9 hC hE hP hD hl hQ
  have hx := hC.1
  have hb := hC.2.1
  have hK := hE.K
  have hS : WS ε s9.heap s9.heap [] := va_S.rf
  have hl : lv_has ls 1 [(0, .ref q)] := hl
  obtain ⟨H, hH⟩ : ∃ H, H = s9.heap := ⟨_, rfl⟩
  obtain ⟨locs, hlo⟩ : ∃ z : List Loc, z = [] := ⟨_, rfl⟩
  rw [← hH] at hP ⊢
  have hS : WS ε s9.heap H locs := by rw [hH, hlo]; exact hS
  rw [← hlo]
  clear hH hlo
  refine lv_aload_n (pc := 0) hx hb dX0_init_0 rfl (lv_at hl 0 rfl) ?_
  refine r_objInit (pc := 1) hC hl.1 m_12_21 (by decide) (Nat.le_of_ble_eq_true rfl) dX0_init_1 ?_
  refine lv_aload_n (pc := 4) hx hb dX0_init_4 rfl (lv_at hl 0 rfl) ?_
  refine lv_bipush (pc := 5) (v := iv 12) hx hb dX0_init_5 (by decide) ?_
  refine p_newI (pc := 7) (z := 12) (N := 12) hC hE hP hD hS rfl (by decide) (by decide) (by decide) m_0_19 dX0_init_7 (fun q1 H hq1 hP hD hS => ?_)
  replace hP : WP ε (X ++ va_pl (L ++ [q1]) (va_up f q1 (eI ε 12 (fun _ => 0)))) H := hP
  replace hD : WD ε (X ++ va_pl (L ++ [q1]) (va_up f q1 (eI ε 12 (fun _ => 0)))) := hD
  refine p_putF (pc := 9) (ci := 1) (T := TX0) (N := 2) (fs := [.null, .int (iv 0)]) hC hK hP hD hS (List.mem_append_left _ hqL) ((va_up_ne _ _ (fun hz : q = q1 => hq1 (hz ▸ hqL))).trans hfq) rfl (fun w h => wt_6 w h) tyX0 tyX0_ok nmX0 0 (by decide) m_12_22 (fun _ h => h) rfl rfl rfl (v := .ref q1) rfl rfl (Nat.le_of_ble_eq_true rfl) dX0_init_9 (fun H locs hP hD hS => ?_)
  replace hP : WP ε (X ++ va_pl (L ++ [q1]) (va_up (va_up f q1 (eI ε 12 (fun _ => 0))) q (.inr (1, [.ref q1, .int (iv 0)])))) H := hP
  replace hD : WD ε (X ++ va_pl (L ++ [q1]) (va_up (va_up f q1 (eI ε 12 (fun _ => 0))) q (.inr (1, [.ref q1, .int (iv 0)])))) := hD
  refine lv_aload_n (pc := 12) hx hb dX0_init_12 rfl (lv_at hl 0 rfl) ?_
  refine lv_iconst (pc := 13) (v := iv 0) hx hb dX0_init_13 rfl ?_
  refine p_put (pc := 14) (ci := 1) (T := TX0) (N := 2) (fs := [.ref q1, .int (iv 0)]) hC hK hP hD hS (List.mem_append_left _ hqL) (va_up_self _ _ _) rfl (fun w h => wt_6 w h) tyX0 tyX0_ok nmX0 1 (by decide) m_12_23 (fun _ h => h) rfl (v := .int (iv 0)) rfl rfl (Nat.le_of_ble_eq_true rfl) dX0_init_14 (fun H locs hP hD hS => ?_)
  replace hP : WP ε (X ++ va_pl (L ++ [q1]) (va_up (va_up (va_up f q1 (eI ε 12 (fun _ => 0))) q (.inr (1, [.ref q1, .int (iv 0)]))) q (.inr (1, [.ref q1, .int (iv 0)])))) H := hP
  replace hD : WD ε (X ++ va_pl (L ++ [q1]) (va_up (va_up (va_up f q1 (eI ε 12 (fun _ => 0))) q (.inr (1, [.ref q1, .int (iv 0)]))) q (.inr (1, [.ref q1, .int (iv 0)])))) := hD
  rw [up_up] at hP hD
  replace hP : WP ε (X ++ va_pl (L ++ [q1]) (va_up (va_up f q1 (eI ε 12 (fun _ => 0))) q (.inr (1, [.ref q1, .int (iv 0)])))) H := hP
  replace hD : WD ε (X ++ va_pl (L ++ [q1]) (va_up (va_up f q1 (eI ε 12 (fun _ => 0))) q (.inr (1, [.ref q1, .int (iv 0)])))) := hD
  refine lv_aload_n (pc := 17) hx hb dX0_init_17 rfl (lv_at hl 0 rfl) ?_
  refine r_get (pc := 18) hC hK hP (in_pl (List.mem_append_left _ hqL) (va_up_self _ _ _)) (hc := rfl) (fun w h => wt_6 w h) 0 (by decide) m_12_22 (fun _ h => h) (v := .ref q1) rfl dX0_init_18 ?_
  refine lv_iconst (pc := 21) (v := iv (-1)) hx hb dX0_init_21 rfl ?_
  refine c_callS (pc := 22) (y := yJ7_fill_53178) (As := [.ref q1, .int (iv ((-1)))]) (rest := []) hC hE hP hD hS hl.1 (c_J_fill l ε X (L ++ [q1]) (va_up (va_up f q1 (eI ε 12 (fun _ => 0))) q (.inr (1, [.ref q1, .int (iv 0)]))) q1 12 ((-1)) (fun _ => 0) (List.mem_append_right _ (List.mem_singleton.mpr rfl)) ((va_up_ne _ _ (fun hz : q1 = q => hq1 (hz.symm ▸ hqL))).trans (va_up_self _ _ _)) (by decide)) m_12_24 m_13_0 m_5_18 m_13_1 hd_yJ7_fill_53178 rfl ⟨⟨by decide, by decide⟩, by decide, by decide⟩ (Nat.le_of_ble_eq_true rfl) rfl dX0_init_22 kxN (fun v ws1 H locs hq hP hD hS => ?_)
  rw [hq.2] at hP hD
  rw [hq.1]
  dsimp only [Option.toList, List.cons_append, List.nil_append]
  replace hP : WP ε (X ++ va_pl (L ++ [q1]) (va_up (va_up (va_up f q1 (eI ε 12 (fun _ => 0))) q (.inr (1, [.ref q1, .int (iv 0)]))) q1 (eI ε 12 (FLL (fun _ => 0) ((-1)) ((12 : Nat) : Int))))) H := hP
  replace hD : WD ε (X ++ va_pl (L ++ [q1]) (va_up (va_up (va_up f q1 (eI ε 12 (fun _ => 0))) q (.inr (1, [.ref q1, .int (iv 0)]))) q1 (eI ε 12 (FLL (fun _ => 0) ((-1)) ((12 : Nat) : Int))))) := hD
  refine c_vret (pc := 25) hC hQ hP hD hS (by decide) (by decide) dX0_init_25 ?_
  exact ⟨rfl, _, q1, hq1, ⟨((va_up_ne _ _ (fun hz : q = q1 => hq1 (hz ▸ hqL))).trans (va_up_self _ _ _)), _, (va_up_self _ _ _), fun k hk => by unfold FLL; rw [if_pos (by omega)]⟩, fun b h1 h2 => (fun hbq : b ≠ q1 => (va_up_ne _ _ hbq).trans ((va_up_ne _ _ h2).trans (va_up_ne _ _ hbq))) (fun hz : b = q1 => hq1 (hz ▸ h1)), rfl⟩

abbrev rm_c_L_init : Room := { frames := 3, cells := 1, slots := 32, locals := 120 }
set_option maxRecDepth 100000 in
set_option maxHeartbeats 4000000 in
theorem c_L_init (l : Launch) (ε : EV) (X : va_W) (L : List Nat) (f : Nat → va_E) (q : Nat) (hqL : q ∈ L) (hfq : f q = .inr (2, [.int (iv 0), .int (iv 0), .null, .int (iv 0), .int (iv 0), .int (iv 0)])) (x9 y9 pt rc se : Int) (rx : 0 ≤ x9 ∧ x9 ≤ 31) (ry : 0 ≤ y9 ∧ y9 ≤ 31) (rr : 1 ≤ rc ∧ rc ≤ 40) (rs : 1 ≤ se ∧ se ≤ 255) : CT l yX1_init cX1_init 9 none rm_c_L_init ε [.ref q, .int (iv x9), .int (iv y9), .int (iv pt), .int (iv rc), .int (iv se)] (X ++ va_pl L f) (fun v w => v = none ∧ MADE X L f q (fun si => oLa x9 y9 si pt 0 0) (LAP ε x9 y9 rc se) w) NX := by
  refine CT.intro (by decide +kernel) (Nat.le_of_ble_eq_true rfl) ?_
  intro p9 e9 s9 m9 a9 bl9 me9 c9 ls Q9 hC hE hP hD hl hQ
  have hx := hC.1
  have hb := hC.2.1
  have hK := hE.K
  have hS : WS ε s9.heap s9.heap [] := va_S.rf
  have hl : lv_has ls 9 [(0, .ref q), (1, .int (iv x9)), (2, .int (iv y9)), (3, .int (iv pt)), (4, .int (iv rc)), (5, .int (iv se))] := hl
  obtain ⟨H, hH⟩ : ∃ H, H = s9.heap := ⟨_, rfl⟩
  obtain ⟨locs, hlo⟩ : ∃ z : List Loc, z = [] := ⟨_, rfl⟩
  rw [← hH] at hP ⊢
  have hS : WS ε s9.heap H locs := by rw [hH, hlo]; exact hS
  rw [← hlo]
  clear hH hlo
  refine lv_aload_n (pc := 0) hx hb dX1_init_0 rfl (lv_at hl 0 rfl) ?_
  refine r_objInit (pc := 1) hC hl.1 m_15_2 (by decide) (Nat.le_of_ble_eq_true rfl) dX1_init_1 ?_
  refine lv_aload_n (pc := 4) hx hb dX1_init_4 rfl (lv_at hl 0 rfl) ?_
  refine lv_iconst (pc := 5) (v := iv 0) hx hb dX1_init_5 rfl ?_
  refine p_put (pc := 6) (ci := 2) (T := TX1) (N := 6) (fs := [.int (iv 0), .int (iv 0), .null, .int (iv 0), .int (iv 0), .int (iv 0)]) hC hK hP hD hS hqL hfq rfl (fun w h => wt_4 w h) tyX1 tyX1_ok nmX1 4 (by decide) m_15_3 (fun _ h => h) rfl (v := .int (iv 0)) rfl rfl (Nat.le_of_ble_eq_true rfl) dX1_init_6 (fun H locs hP hD hS => ?_)
  replace hP : WP ε (X ++ va_pl L (va_up f q (.inr (2, [.int (iv 0), .int (iv 0), .null, .int (iv 0), .int (iv 0), .int (iv 0)])))) H := hP
  replace hD : WD ε (X ++ va_pl L (va_up f q (.inr (2, [.int (iv 0), .int (iv 0), .null, .int (iv 0), .int (iv 0), .int (iv 0)])))) := hD
  refine lv_aload_n (pc := 9) hx hb dX1_init_9 rfl (lv_at hl 0 rfl) ?_
  refine lv_iconst (pc := 10) (v := iv 0) hx hb dX1_init_10 rfl ?_
  refine p_put (pc := 11) (ci := 2) (T := TX1) (N := 6) (fs := [.int (iv 0), .int (iv 0), .null, .int (iv 0), .int (iv 0), .int (iv 0)]) hC hK hP hD hS hqL (va_up_self _ _ _) rfl (fun w h => wt_4 w h) tyX1 tyX1_ok nmX1 5 (by decide) m_15_4 (fun _ h => h) rfl (v := .int (iv 0)) rfl rfl (Nat.le_of_ble_eq_true rfl) dX1_init_11 (fun H locs hP hD hS => ?_)
  replace hP : WP ε (X ++ va_pl L (va_up (va_up f q (.inr (2, [.int (iv 0), .int (iv 0), .null, .int (iv 0), .int (iv 0), .int (iv 0)]))) q (.inr (2, [.int (iv 0), .int (iv 0), .null, .int (iv 0), .int (iv 0), .int (iv 0)])))) H := hP
  replace hD : WD ε (X ++ va_pl L (va_up (va_up f q (.inr (2, [.int (iv 0), .int (iv 0), .null, .int (iv 0), .int (iv 0), .int (iv 0)]))) q (.inr (2, [.int (iv 0), .int (iv 0), .null, .int (iv 0), .int (iv 0), .int (iv 0)])))) := hD
  rw [up_up] at hP hD
  replace hP : WP ε (X ++ va_pl L (va_up f q (.inr (2, [.int (iv 0), .int (iv 0), .null, .int (iv 0), .int (iv 0), .int (iv 0)])))) H := hP
  replace hD : WD ε (X ++ va_pl L (va_up f q (.inr (2, [.int (iv 0), .int (iv 0), .null, .int (iv 0), .int (iv 0), .int (iv 0)])))) := hD
  refine lv_bipush (pc := 14) (v := iv 32) hx hb dX1_init_14 (by decide) ?_
  refine p_newI (pc := 16) (z := 32) (N := 32) hC hE hP hD hS rfl (by decide) (by decide) (by decide) m_0_19 dX1_init_16 (fun q1 H hq1 hP hD hS => ?_)
  replace hP : WP ε (X ++ va_pl (L ++ [q1]) (va_up (va_up f q (.inr (2, [.int (iv 0), .int (iv 0), .null, .int (iv 0), .int (iv 0), .int (iv 0)]))) q1 (eI ε 32 (fun _ => 0)))) H := hP
  replace hD : WD ε (X ++ va_pl (L ++ [q1]) (va_up (va_up f q (.inr (2, [.int (iv 0), .int (iv 0), .null, .int (iv 0), .int (iv 0), .int (iv 0)]))) q1 (eI ε 32 (fun _ => 0)))) := hD
  refine lv_astore (lv' := [(6, .ref q1), (0, .ref q), (1, .int (iv x9)), (2, .int (iv y9)), (3, .int (iv pt)), (4, .int (iv rc)), (5, .int (iv se))]) (pc := 18) hx hb dX1_init_18 hl (by decide) rfl (fun ls hl => ?_)
  refine lv_iconst (pc := 20) (v := iv 0) hx hb dX1_init_20 rfl ?_
  refine lv_istore (lv' := [(7, .int (iv 0)), (6, .ref q1), (0, .ref q), (1, .int (iv x9)), (2, .int (iv y9)), (3, .int (iv pt)), (4, .int (iv rc)), (5, .int (iv se))]) (pc := 21) hx hb dX1_init_21 hl (by decide) rfl (fun ls hl => ?_)
  have lp_23 : ∀ (k9 : Nat) (row : Int) (hrow : 0 ≤ row ∧ row ≤ 32) , ((32 - row).toNat) < k9 → ∀ (H : Heap) (locs : List Loc) (ls : Array Slot), WP ε (X ++ va_pl (L ++ [q1]) (va_up (va_up f q (.inr (2, [.int (iv 0), .int (iv 0), .null, .int (iv 0), .int (iv 0), .int (iv 0)]))) q1 (eI ε 32 (RWS (VIS x9 y9 rc se) row 0)))) H → WD ε (X ++ va_pl (L ++ [q1]) (va_up (va_up f q (.inr (2, [.int (iv 0), .int (iv 0), .null, .int (iv 0), .int (iv 0), .int (iv 0)]))) q1 (eI ε 32 (RWS (VIS x9 y9 rc se) row 0)))) → WS ε s9.heap H locs → lv_has ls 9 [(0, .ref q), (1, .int (iv x9)), (2, .int (iv y9)), (3, .int (iv pt)), (4, .int (iv rc)), (5, .int (iv se)), (6, .ref q1), (7, .int (iv row))] → W p9 l e9 rm_c_L_init s9 m9 a9 bl9 me9 c9 H locs 1 32 Q9 (F0 m9 23 ls []) := by
    intro k9
    induction k9 with
    | zero => intro row hrow h9; exact absurd h9 (Nat.not_lt_zero _)
    | succ k9 ih_23 =>
      intro row hrow h9 H locs ls hP hD hS hl
      refine lv_iload (pc := 23) hx hb dX1_init_23 (lv_at hl 7 rfl) ?_
      refine lv_aload (pc := 25) hx hb dX1_init_25 (lv_at hl 6 rfl) ?_
      refine r_alenI (pc := 27) hC hK hP (in_pl (List.mem_append_right _ (List.mem_singleton.mpr rfl)) (va_up_self _ _ _)) dX1_init_27 ?_
      refine r_icmp_ge (pc := 28) (a := row) (b := (32 : Int)) hx hb dX1_init_28 (tgt := 83) (by decide) ⟨by omega, by omega⟩ ⟨by omega, by omega⟩ (fun c_28 => ?_) (fun c_28 => ?_)
      · have c_28_ := c_28
        refine lv_aload_n (pc := 83) hx hb dX1_init_83 rfl (lv_at hl 0 rfl) ?_
        refine lv_iload_n (pc := 84) hx hb dX1_init_84 rfl (lv_at hl 1 rfl) ?_
        refine p_putF (pc := 85) (ci := 2) (T := TX1) (N := 6) (fs := [.int (iv 0), .int (iv 0), .null, .int (iv 0), .int (iv 0), .int (iv 0)]) hC hK hP hD hS (List.mem_append_left _ hqL) ((va_up_ne _ _ (fun hz : q = q1 => hq1 (hz ▸ hqL))).trans (va_up_self _ _ _)) rfl (fun w h => wt_4 w h) tyX1 tyX1_ok nmX1 0 (by decide) m_15_5 (fun _ h => h) rfl rfl rfl (v := .int (iv x9)) rfl rfl (Nat.le_of_ble_eq_true rfl) dX1_init_85 (fun H locs hP hD hS => ?_)
        replace hP : WP ε (X ++ va_pl (L ++ [q1]) (va_up (va_up (va_up f q (.inr (2, [.int (iv 0), .int (iv 0), .null, .int (iv 0), .int (iv 0), .int (iv 0)]))) q1 (eI ε 32 (RWS (VIS x9 y9 rc se) row 0))) q (.inr (2, [.int (iv x9), .int (iv 0), .null, .int (iv 0), .int (iv 0), .int (iv 0)])))) H := hP
        replace hD : WD ε (X ++ va_pl (L ++ [q1]) (va_up (va_up (va_up f q (.inr (2, [.int (iv 0), .int (iv 0), .null, .int (iv 0), .int (iv 0), .int (iv 0)]))) q1 (eI ε 32 (RWS (VIS x9 y9 rc se) row 0))) q (.inr (2, [.int (iv x9), .int (iv 0), .null, .int (iv 0), .int (iv 0), .int (iv 0)])))) := hD
        refine lv_aload_n (pc := 88) hx hb dX1_init_88 rfl (lv_at hl 0 rfl) ?_
        refine lv_iload_n (pc := 89) hx hb dX1_init_89 rfl (lv_at hl 2 rfl) ?_
        refine p_putF (pc := 90) (ci := 2) (T := TX1) (N := 6) (fs := [.int (iv x9), .int (iv 0), .null, .int (iv 0), .int (iv 0), .int (iv 0)]) hC hK hP hD hS (List.mem_append_left _ hqL) (va_up_self _ _ _) rfl (fun w h => wt_4 w h) tyX1 tyX1_ok nmX1 1 (by decide) m_15_6 (fun _ h => h) rfl rfl rfl (v := .int (iv y9)) rfl rfl (Nat.le_of_ble_eq_true rfl) dX1_init_90 (fun H locs hP hD hS => ?_)
        replace hP : WP ε (X ++ va_pl (L ++ [q1]) (va_up (va_up (va_up (va_up f q (.inr (2, [.int (iv 0), .int (iv 0), .null, .int (iv 0), .int (iv 0), .int (iv 0)]))) q1 (eI ε 32 (RWS (VIS x9 y9 rc se) row 0))) q (.inr (2, [.int (iv x9), .int (iv 0), .null, .int (iv 0), .int (iv 0), .int (iv 0)]))) q (.inr (2, [.int (iv x9), .int (iv y9), .null, .int (iv 0), .int (iv 0), .int (iv 0)])))) H := hP
        replace hD : WD ε (X ++ va_pl (L ++ [q1]) (va_up (va_up (va_up (va_up f q (.inr (2, [.int (iv 0), .int (iv 0), .null, .int (iv 0), .int (iv 0), .int (iv 0)]))) q1 (eI ε 32 (RWS (VIS x9 y9 rc se) row 0))) q (.inr (2, [.int (iv x9), .int (iv 0), .null, .int (iv 0), .int (iv 0), .int (iv 0)]))) q (.inr (2, [.int (iv x9), .int (iv y9), .null, .int (iv 0), .int (iv 0), .int (iv 0)])))) := hD
        rw [up_up] at hP hD
        replace hP : WP ε (X ++ va_pl (L ++ [q1]) (va_up (va_up (va_up f q (.inr (2, [.int (iv 0), .int (iv 0), .null, .int (iv 0), .int (iv 0), .int (iv 0)]))) q1 (eI ε 32 (RWS (VIS x9 y9 rc se) row 0))) q (.inr (2, [.int (iv x9), .int (iv y9), .null, .int (iv 0), .int (iv 0), .int (iv 0)])))) H := hP
        replace hD : WD ε (X ++ va_pl (L ++ [q1]) (va_up (va_up (va_up f q (.inr (2, [.int (iv 0), .int (iv 0), .null, .int (iv 0), .int (iv 0), .int (iv 0)]))) q1 (eI ε 32 (RWS (VIS x9 y9 rc se) row 0))) q (.inr (2, [.int (iv x9), .int (iv y9), .null, .int (iv 0), .int (iv 0), .int (iv 0)])))) := hD
        refine lv_aload_n (pc := 93) hx hb dX1_init_93 rfl (lv_at hl 0 rfl) ?_
        refine lv_aload (pc := 94) hx hb dX1_init_94 (lv_at hl 6 rfl) ?_
        refine p_putF (pc := 96) (ci := 2) (T := TX1) (N := 6) (fs := [.int (iv x9), .int (iv y9), .null, .int (iv 0), .int (iv 0), .int (iv 0)]) hC hK hP hD hS (List.mem_append_left _ hqL) (va_up_self _ _ _) rfl (fun w h => wt_4 w h) tyX1 tyX1_ok nmX1 2 (by decide) m_4_10 (fun _ h => h) rfl rfl rfl (v := .ref q1) rfl rfl (Nat.le_of_ble_eq_true rfl) dX1_init_96 (fun H locs hP hD hS => ?_)
        replace hP : WP ε (X ++ va_pl (L ++ [q1]) (va_up (va_up (va_up (va_up f q (.inr (2, [.int (iv 0), .int (iv 0), .null, .int (iv 0), .int (iv 0), .int (iv 0)]))) q1 (eI ε 32 (RWS (VIS x9 y9 rc se) row 0))) q (.inr (2, [.int (iv x9), .int (iv y9), .null, .int (iv 0), .int (iv 0), .int (iv 0)]))) q (.inr (2, [.int (iv x9), .int (iv y9), .ref q1, .int (iv 0), .int (iv 0), .int (iv 0)])))) H := hP
        replace hD : WD ε (X ++ va_pl (L ++ [q1]) (va_up (va_up (va_up (va_up f q (.inr (2, [.int (iv 0), .int (iv 0), .null, .int (iv 0), .int (iv 0), .int (iv 0)]))) q1 (eI ε 32 (RWS (VIS x9 y9 rc se) row 0))) q (.inr (2, [.int (iv x9), .int (iv y9), .null, .int (iv 0), .int (iv 0), .int (iv 0)]))) q (.inr (2, [.int (iv x9), .int (iv y9), .ref q1, .int (iv 0), .int (iv 0), .int (iv 0)])))) := hD
        rw [up_up] at hP hD
        replace hP : WP ε (X ++ va_pl (L ++ [q1]) (va_up (va_up (va_up f q (.inr (2, [.int (iv 0), .int (iv 0), .null, .int (iv 0), .int (iv 0), .int (iv 0)]))) q1 (eI ε 32 (RWS (VIS x9 y9 rc se) row 0))) q (.inr (2, [.int (iv x9), .int (iv y9), .ref q1, .int (iv 0), .int (iv 0), .int (iv 0)])))) H := hP
        replace hD : WD ε (X ++ va_pl (L ++ [q1]) (va_up (va_up (va_up f q (.inr (2, [.int (iv 0), .int (iv 0), .null, .int (iv 0), .int (iv 0), .int (iv 0)]))) q1 (eI ε 32 (RWS (VIS x9 y9 rc se) row 0))) q (.inr (2, [.int (iv x9), .int (iv y9), .ref q1, .int (iv 0), .int (iv 0), .int (iv 0)])))) := hD
        refine lv_aload_n (pc := 99) hx hb dX1_init_99 rfl (lv_at hl 0 rfl) ?_
        refine lv_iload_n (pc := 100) hx hb dX1_init_100 rfl (lv_at hl 3 rfl) ?_
        refine p_put (pc := 101) (ci := 2) (T := TX1) (N := 6) (fs := [.int (iv x9), .int (iv y9), .ref q1, .int (iv 0), .int (iv 0), .int (iv 0)]) hC hK hP hD hS (List.mem_append_left _ hqL) (va_up_self _ _ _) rfl (fun w h => wt_4 w h) tyX1 tyX1_ok nmX1 3 (by decide) m_15_7 (fun _ h => h) rfl (v := .int (iv pt)) rfl rfl (Nat.le_of_ble_eq_true rfl) dX1_init_101 (fun H locs hP hD hS => ?_)
        replace hP : WP ε (X ++ va_pl (L ++ [q1]) (va_up (va_up (va_up (va_up f q (.inr (2, [.int (iv 0), .int (iv 0), .null, .int (iv 0), .int (iv 0), .int (iv 0)]))) q1 (eI ε 32 (RWS (VIS x9 y9 rc se) row 0))) q (.inr (2, [.int (iv x9), .int (iv y9), .ref q1, .int (iv 0), .int (iv 0), .int (iv 0)]))) q (.inr (2, [.int (iv x9), .int (iv y9), .ref q1, .int (iv pt), .int (iv 0), .int (iv 0)])))) H := hP
        replace hD : WD ε (X ++ va_pl (L ++ [q1]) (va_up (va_up (va_up (va_up f q (.inr (2, [.int (iv 0), .int (iv 0), .null, .int (iv 0), .int (iv 0), .int (iv 0)]))) q1 (eI ε 32 (RWS (VIS x9 y9 rc se) row 0))) q (.inr (2, [.int (iv x9), .int (iv y9), .ref q1, .int (iv 0), .int (iv 0), .int (iv 0)]))) q (.inr (2, [.int (iv x9), .int (iv y9), .ref q1, .int (iv pt), .int (iv 0), .int (iv 0)])))) := hD
        rw [up_up] at hP hD
        replace hP : WP ε (X ++ va_pl (L ++ [q1]) (va_up (va_up (va_up f q (.inr (2, [.int (iv 0), .int (iv 0), .null, .int (iv 0), .int (iv 0), .int (iv 0)]))) q1 (eI ε 32 (RWS (VIS x9 y9 rc se) row 0))) q (.inr (2, [.int (iv x9), .int (iv y9), .ref q1, .int (iv pt), .int (iv 0), .int (iv 0)])))) H := hP
        replace hD : WD ε (X ++ va_pl (L ++ [q1]) (va_up (va_up (va_up f q (.inr (2, [.int (iv 0), .int (iv 0), .null, .int (iv 0), .int (iv 0), .int (iv 0)]))) q1 (eI ε 32 (RWS (VIS x9 y9 rc se) row 0))) q (.inr (2, [.int (iv x9), .int (iv y9), .ref q1, .int (iv pt), .int (iv 0), .int (iv 0)])))) := hD
        refine c_vret (pc := 104) hC hQ hP hD hS (by decide) (by decide) dX1_init_104 ?_
        exact ⟨rfl, _, q1, hq1, ⟨(va_up_self _ _ _), _, ((va_up_ne _ _ (fun hz : q1 = q => hq1 (hz.symm ▸ hqL))).trans (va_up_self _ _ _)), fun j hj => by rw [show row = 32 by omega]; exact RWS.done hj⟩, fun b h1 h2 => (fun hbq : b ≠ q1 => (va_up_ne _ _ h2).trans ((va_up_ne _ _ hbq).trans (va_up_ne _ _ h2))) (fun hz : b = q1 => hq1 (hz ▸ h1)), rfl⟩
      · have c_28_ := c_28
        refine lv_iconst (pc := 31) (v := iv 0) hx hb dX1_init_31 rfl ?_
        refine lv_istore (lv' := [(8, .int (iv 0)), (0, .ref q), (1, .int (iv x9)), (2, .int (iv y9)), (3, .int (iv pt)), (4, .int (iv rc)), (5, .int (iv se)), (6, .ref q1), (7, .int (iv row))]) (pc := 32) hx hb dX1_init_32 hl (by decide) rfl (fun ls hl => ?_)
        have lp_34 : ∀ (k9 : Nat) (col : Int) (hcol : 0 ≤ col ∧ col ≤ 32) , ((32 - col).toNat) < k9 → ∀ (H : Heap) (locs : List Loc) (ls : Array Slot), WP ε (X ++ va_pl (L ++ [q1]) (va_up (va_up f q (.inr (2, [.int (iv 0), .int (iv 0), .null, .int (iv 0), .int (iv 0), .int (iv 0)]))) q1 (eI ε 32 (RWS (VIS x9 y9 rc se) row col)))) H → WD ε (X ++ va_pl (L ++ [q1]) (va_up (va_up f q (.inr (2, [.int (iv 0), .int (iv 0), .null, .int (iv 0), .int (iv 0), .int (iv 0)]))) q1 (eI ε 32 (RWS (VIS x9 y9 rc se) row col)))) → WS ε s9.heap H locs → lv_has ls 9 [(0, .ref q), (1, .int (iv x9)), (2, .int (iv y9)), (3, .int (iv pt)), (4, .int (iv rc)), (5, .int (iv se)), (6, .ref q1), (7, .int (iv row)), (8, .int (iv col))] → W p9 l e9 rm_c_L_init s9 m9 a9 bl9 me9 c9 H locs 1 32 Q9 (F0 m9 34 ls []) := by
          intro k9
          induction k9 with
          | zero => intro col hcol h9; exact absurd h9 (Nat.not_lt_zero _)
          | succ k9 ih_34 =>
            intro col hcol h9 H locs ls hP hD hS hl
            refine lv_iload (pc := 34) hx hb dX1_init_34 (lv_at hl 8 rfl) ?_
            refine lv_bipush (pc := 36) (v := iv 32) hx hb dX1_init_36 (by decide) ?_
            refine r_icmp_ge (pc := 38) (a := col) (b := 32) hx hb dX1_init_38 (tgt := 77) (by decide) ⟨by omega, by omega⟩ ⟨by omega, by omega⟩ (fun c_38 => ?_) (fun c_38 => ?_)
            · have c_38_ := c_38
              refine lv_iinc (v := iv (row + 1)) (lv' := [(7, .int (iv (row + 1))), (0, .ref q), (1, .int (iv x9)), (2, .int (iv y9)), (3, .int (iv pt)), (4, .int (iv rc)), (5, .int (iv se)), (6, .ref q1), (8, .int (iv col))]) (pc := 77) hx hb dX1_init_77 hl (k := 7) rfl (iv_add _ _) (by decide) rfl (fun ls hl => ?_)
              refine lv_goto (pc := 80) (tgt := 23) hx hb dX1_init_80 (by decide) ?_
              rw [show col = 32 by omega, RWS.next] at hP hD
              exact ih_23 (row + 1) (by omega) (by omega) _ _ _ hP hD hS (lv_sub hl [1, 2, 3, 4, 5, 6, 7, 0] rfl)
            · have c_38_ := c_38
              refine lv_iload (pc := 41) hx hb dX1_init_41 (lv_at hl 8 rfl) ?_
              refine lv_iload_n (pc := 43) hx hb dX1_init_43 rfl (lv_at hl 1 rfl) ?_
              refine r_isub (pc := 44) (a := col) (b := x9) hx hb dX1_init_44 ?_
              refine lv_iload (pc := 45) hx hb dX1_init_45 (lv_at hl 7 rfl) ?_
              refine lv_iload_n (pc := 47) hx hb dX1_init_47 rfl (lv_at hl 2 rfl) ?_
              refine r_isub (pc := 48) (a := row) (b := y9) hx hb dX1_init_48 ?_
              refine lv_iload (pc := 49) hx hb dX1_init_49 (lv_at hl 4 rfl) ?_
              refine lv_iload (pc := 51) hx hb dX1_init_51 (lv_at hl 5 rfl) ?_
              refine c_callS (pc := 53) (y := yX1_isWithin) (As := [.int (iv (col - x9)), .int (iv (row - y9)), .int (iv rc), .int (iv se)]) (rest := []) hC hE hP hD hS hl.1 (c_L_isWithin l ε (X ++ va_pl (L ++ [q1]) (va_up (va_up f q (.inr (2, [.int (iv 0), .int (iv 0), .null, .int (iv 0), .int (iv 0), .int (iv 0)]))) q1 (eI ε 32 (RWS (VIS x9 y9 rc se) row col)))) (col - x9) (row - y9) (rc) (se) ⟨by omega, by omega⟩ ⟨by omega, by omega⟩ rr rs) m_15_8 m_15_9 m_4_8 m_15_10 hd_yX1_isWithin rfl ⟨⟨by decide, by decide⟩, by decide, by decide⟩ (Nat.le_of_ble_eq_true rfl) rfl dX1_init_53 kxN (fun v ws1 H locs hq hP hD hS => ?_)
              rw [hq.2] at hP hD
              rw [hq.1]
              dsimp only [Option.toList, List.cons_append, List.nil_append]
              refine r_if_b0 (pc := 56) (b := tb (WITHIN (col - x9) (row - y9) rc se)) hx hb dX1_init_56 (tgt := 71) (by decide)  (fun c_56 => ?_) (fun c_56 => ?_)
              · replace c_56 := tb_no c_56
                refine lv_iinc (v := iv (col + 1)) (lv' := [(8, .int (iv (col + 1))), (0, .ref q), (1, .int (iv x9)), (2, .int (iv y9)), (3, .int (iv pt)), (4, .int (iv rc)), (5, .int (iv se)), (6, .ref q1), (7, .int (iv row))]) (pc := 71) hx hb dX1_init_71 hl (k := 8) rfl (iv_add _ _) (by decide) rfl (fun ls hl => ?_)
                refine lv_goto (pc := 74) (tgt := 34) hx hb dX1_init_74 (by decide) ?_
                rw [RWS.miss (V := VIS x9 y9 rc se) (r := row) (c := col) (by omega) (fun z => c_56 z)] at hP hD
                exact ih_34 (col + 1) (by omega) (by omega) _ _ _ hP hD hS (lv_sub hl [1, 2, 3, 4, 5, 6, 7, 8, 0] rfl)
              · replace c_56 := tb_iff.mp c_56
                refine lv_aload (pc := 59) hx hb dX1_init_59 (lv_at hl 6 rfl) ?_
                refine lv_iload (pc := 61) hx hb dX1_init_61 (lv_at hl 7 rfl) ?_
                refine lv_dup2_11 (pc := 63) hx hb dX1_init_63 rfl rfl ?_
                refine r_iald (pc := 64) (z := row) hC hK hP (in_pl (List.mem_append_right _ (List.mem_singleton.mpr rfl)) (va_up_self _ _ _)) ⟨by omega, by omega, by omega⟩ dX1_init_64 ?_
                rw [RWS.cur (by omega)]
                refine lv_iconst (pc := 65) (v := iv 1) hx hb dX1_init_65 rfl ?_
                refine lv_iload (pc := 66) hx hb dX1_init_66 (lv_at hl 8 rfl) ?_
                refine lv_ishl (pc := 68) (x := iv 1) (y := iv col) hx hb dX1_init_68 ?_
                rw [iv_shl1 (k := col) ⟨by omega, by omega⟩]
                refine lv_ior (pc := 69) (x := iv (BW ((VIS x9 y9 rc se) row) col.toNat)) (y := iv (2 ^ col.toNat)) hx hb dX1_init_69 ?_
                rw [iv_or (BW.bd _ _).1 (BW.bd _ _).2]
                refine p_iast (pc := 70) (z := row) (v := BW ((VIS x9 y9 rc se) row) col.toNat + 2 ^ col.toNat) hC hK hP hD hS (List.mem_append_right _ (List.mem_singleton.mpr rfl)) (va_up_self _ _ _) ⟨by omega, by omega, by omega⟩ dX1_init_70 (fun H locs hP hD hS => ?_)
                replace hP : WP ε (X ++ va_pl (L ++ [q1]) (va_up (va_up (va_up f q (.inr (2, [.int (iv 0), .int (iv 0), .null, .int (iv 0), .int (iv 0), .int (iv 0)]))) q1 (eI ε 32 (RWS (VIS x9 y9 rc se) row col))) q1 (eI ε 32 (va_up (RWS (VIS x9 y9 rc se) row col) row.toNat (BW ((VIS x9 y9 rc se) row) col.toNat + 2 ^ col.toNat))))) H := hP
                replace hD : WD ε (X ++ va_pl (L ++ [q1]) (va_up (va_up (va_up f q (.inr (2, [.int (iv 0), .int (iv 0), .null, .int (iv 0), .int (iv 0), .int (iv 0)]))) q1 (eI ε 32 (RWS (VIS x9 y9 rc se) row col))) q1 (eI ε 32 (va_up (RWS (VIS x9 y9 rc se) row col) row.toNat (BW ((VIS x9 y9 rc se) row) col.toNat + 2 ^ col.toNat))))) := hD
                rw [up_up] at hP hD
                replace hP : WP ε (X ++ va_pl (L ++ [q1]) (va_up (va_up f q (.inr (2, [.int (iv 0), .int (iv 0), .null, .int (iv 0), .int (iv 0), .int (iv 0)]))) q1 (eI ε 32 (va_up (RWS (VIS x9 y9 rc se) row col) row.toNat (BW ((VIS x9 y9 rc se) row) col.toNat + 2 ^ col.toNat))))) H := hP
                replace hD : WD ε (X ++ va_pl (L ++ [q1]) (va_up (va_up f q (.inr (2, [.int (iv 0), .int (iv 0), .null, .int (iv 0), .int (iv 0), .int (iv 0)]))) q1 (eI ε 32 (va_up (RWS (VIS x9 y9 rc se) row col) row.toNat (BW ((VIS x9 y9 rc se) row) col.toNat + 2 ^ col.toNat))))) := hD
                refine lv_iinc (v := iv (col + 1)) (lv' := [(8, .int (iv (col + 1))), (0, .ref q), (1, .int (iv x9)), (2, .int (iv y9)), (3, .int (iv pt)), (4, .int (iv rc)), (5, .int (iv se)), (6, .ref q1), (7, .int (iv row))]) (pc := 71) hx hb dX1_init_71 hl (k := 8) rfl (iv_add _ _) (by decide) rfl (fun ls hl => ?_)
                refine lv_goto (pc := 74) (tgt := 34) hx hb dX1_init_74 (by decide) ?_
                rw [RWS.hit (V := VIS x9 y9 rc se) (r := row) (c := col) (by omega) (by omega) (show VIS x9 y9 rc se row col from c_56)] at hP hD
                exact ih_34 (col + 1) (by omega) (by omega) _ _ _ hP hD hS (lv_sub hl [1, 2, 3, 4, 5, 6, 7, 8, 0] rfl)
        exact lp_34 _ 0 (by omega) (Nat.lt_succ_self _) _ _ _ hP hD hS (lv_sub hl [1, 2, 3, 4, 5, 6, 7, 8, 0] rfl)
  rw [show eI ε 32 (fun _ => 0) = eI ε 32 (RWS (VIS x9 y9 rc se) 0 0) by rw [RWS.zero]] at hP hD
  exact lp_23 _ 0 (by omega) (Nat.lt_succ_self _) _ _ _ hP hD hS (lv_sub hl [2, 3, 4, 5, 6, 7, 1, 0] rfl)
