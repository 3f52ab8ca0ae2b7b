abbrev rm_c_W_phase : Room := { frames := 7, cells := 2, slots := 12, locals := 130 }
set_option maxRecDepth 100000 in
set_option maxHeartbeats 4000000 in
theorem c_W_phase (l : Launch) (ε : EV) (X : va_W) (L : List Nat) (f : Nat → va_E) (hst : l.stackTraces = false) (ρ : Nat → Int) (x : Nat) (n : Nat → Int) (G : Nat → Nat → Int) (hR : RX (IP L f ρ) ε x n G) (hN : NB n) (hD0 : VDra n G) (t : Int) (rt : rg t) : CT l yX4_phase cX4_phase 2 (some .int) rm_c_W_phase ε [.ref x, .int (iv t)] (X ++ va_pl L f) (fun v w => ((1 ≤ t ∧ t ≤ 9) ∧ n 0 < 6) ∧ v = some (.int (iv (n 0 + 1))) ∧ ∃ (L2 : List Nat) (f2 : Nat → va_E) (ρ2 : Nat → Int), w = X ++ va_pl L2 f2 ∧ RX (IP L2 f2 ρ2) ε x (va_up n 0 (n 0 + 1)) (va_up G 0 (va_up (G 0) (n 0).toNat t))) (fun E w => (¬ (1 ≤ t ∧ t ≤ 9) ∧ E = nIAE ∧ w = X ++ va_pl L f) ∨ (((1 ≤ t ∧ t ≤ 9) ∧ n 0 = 6) ∧ E = nISE ∧ w = X ++ va_pl L f)) := by
  refine CT.intro (by decide +kernel) (Nat.le_of_ble_eq_true rfl) ?_
  intro p9 e9 s9 m9 a9 bl9 me9 c9 ls Q9 hC hE hP hD hl hQ
  have hx := hC.1
  have hb := hC.2.1
  have hK := hE.K
  have hS : WS ε s9.heap s9.heap [] := va_S.rf
  have hl : lv_has ls 2 [(0, .ref x), (1, .int (iv t))] := hl
  obtain ⟨H, hH⟩ : ∃ H, H = s9.heap := ⟨_, rfl⟩
  obtain ⟨locs, hlo⟩ : ∃ z : List Loc, z = [] := ⟨_, rfl⟩
  rw [← hH] at hP ⊢
  have hS : WS ε s9.heap H locs := by rw [hH, hlo]; exact hS
  rw [← hlo]
  clear hH hlo
  obtain ⟨dr, aP, aL, aT, aC, Dr, eP, eL, eT, eC, hRC⟩ := id hR
  obtain ⟨hx0, hxD, hlP, hlL, hlT, hlC, hpP, hpL, hpT, hpC⟩ := id hRC
  have hnb := hN
  have hxd : x ≠ dr := fun z => by have h1 := hx0.1.2; rw [z, hxD.1.1.2] at h1; cases h1
  have hd0 := hD0.1
  refine lv_iload_n (pc := 0) hx hb dX4_phase_0 rfl (lv_at hl 1 rfl) ?_
  refine lv_iconst (pc := 1) (v := iv 1) hx hb dX4_phase_1 rfl ?_
  refine lv_bipush (pc := 2) (v := iv 9) hx hb dX4_phase_2 (by decide) ?_
  refine c_callS (pc := 4) (y := yX4_requireWithin) (As := [.int (iv t), .int (iv 1), .int (iv 9)]) (rest := []) hC hE hP hD hS hl.1 (c_R_within l ε (X ++ va_pl L f) hst (t) (1) (9) ⟨by omega, by omega⟩ ⟨by omega, by omega⟩ ⟨by omega, by omega⟩) m_2_19 m_2_20 m_0_2 m_2_21 hd_yX4_requireWithin rfl ⟨⟨by decide, by decide⟩, by decide, by decide⟩ (Nat.le_of_ble_eq_true rfl) rfl dX4_phase_4 (fun E ce q9 ws1 H1 locs1 hq hP hD hS h1 h2 h3 => c_out hC hQ hP hD hS h1 h2 h3 (by decide) (by decide) (Or.inl hq)) (fun v ws1 H locs hq hP hD hS => ?_)
  obtain ⟨hg1, hv_, hw_⟩ := hq
  rw [hw_] at hP hD
  rw [hv_]
  clear hv_ hw_
  dsimp only [Option.toList, List.cons_append, List.nil_append]
  refine lv_aload_n (pc := 7) hx hb dX4_phase_7 rfl (lv_at hl 0 rfl) ?_
  refine r_get (pc := 8) hC hK hP (in_pl hx0.1.1 hx0.1.2) (hc := rfl) (fun w h => wt_0 w h) 1 (by decide) m_0_15 (fun _ h => h) (v := .int (iv (n 0))) rfl dX4_phase_8 ?_
  refine lv_aload_n (pc := 11) hx hb dX4_phase_11 rfl (lv_at hl 0 rfl) ?_
  refine r_get (pc := 12) hC hK hP (in_pl hx0.1.1 hx0.1.2) (hc := rfl) (fun w h => wt_0 w h) 0 (by decide) m_0_14 (fun _ h => h) (v := .ref dr) rfl dX4_phase_12 ?_
  refine r_alenI (pc := 15) hC hK hP (in_pl hxD.1.1.1 hxD.1.1.2) dX4_phase_15 ?_
  refine r_icmp_lt (pc := 16) (a := n 0) (b := (6 : Int)) hx hb dX4_phase_16 (tgt := 29) (by decide) ⟨by omega, by omega⟩ ⟨by omega, by omega⟩ (fun c_16 => ?_) (fun c_16 => ?_)
  · have c_16_ := c_16
    refine lv_aload_n (pc := 29) hx hb dX4_phase_29 rfl (lv_at hl 0 rfl) ?_
    refine r_get (pc := 30) hC hK hP (in_pl hx0.1.1 hx0.1.2) (hc := rfl) (fun w h => wt_0 w h) 0 (by decide) m_0_14 (fun _ h => h) (v := .ref dr) rfl dX4_phase_30 ?_
    refine lv_aload_n (pc := 33) hx hb dX4_phase_33 rfl (lv_at hl 0 rfl) ?_
    refine r_get (pc := 34) hC hK hP (in_pl hx0.1.1 hx0.1.2) (hc := rfl) (fun w h => wt_0 w h) 1 (by decide) m_0_15 (fun _ h => h) (v := .int (iv (n 0))) rfl dX4_phase_34 ?_
    refine lv_iload_n (pc := 37) hx hb dX4_phase_37 rfl (lv_at hl 1 rfl) ?_
    refine p_iast (pc := 38) (z := n 0) (v := t) hC hK hP hD hS hxD.1.1.1 hxD.1.1.2 ⟨by omega, by omega, by omega⟩ dX4_phase_38 (fun H locs hP hD hS => ?_)
    replace hP : WP ε (X ++ va_pl L (va_up f dr (eI ε 6 (va_up Dr (n 0).toNat t)))) H := hP
    replace hD : WD ε (X ++ va_pl L (va_up f dr (eI ε 6 (va_up Dr (n 0).toNat t)))) := hD
    refine lv_aload_n (pc := 39) hx hb dX4_phase_39 rfl (lv_at hl 0 rfl) ?_
    refine lv_dup (pc := 40) hx hb dX4_phase_40 rfl ?_
    refine r_get (pc := 41) hC hK hP (in_pl hx0.1.1 ((va_up_ne _ _ hxd).trans hx0.1.2)) (hc := rfl) (fun w h => wt_0 w h) 1 (by decide) m_0_15 (fun _ h => h) (v := .int (iv (n 0))) rfl dX4_phase_41 ?_
    refine lv_iconst (pc := 44) (v := iv 1) hx hb dX4_phase_44 rfl ?_
    refine r_iadd (pc := 45) (a := n 0) (b := 1) hx hb dX4_phase_45 ?_
    refine p_put (pc := 46) (ci := 5) (T := TX4) (N := 6) (fs := [.ref dr, .int (iv (n 0)), .ref aP, .ref aL, .ref aT, .ref aC]) hC hK hP hD hS hx0.1.1 ((va_up_ne _ _ hxd).trans hx0.1.2) rfl (fun w h => wt_0 w h) tyX4 tyX4_ok nmX4 1 (by decide) m_0_15 (fun _ h => h) rfl (v := .int (iv ((n 0) + 1))) rfl rfl (Nat.le_of_ble_eq_true rfl) dX4_phase_46 (fun H locs hP hD hS => ?_)
    replace hP : WP ε (X ++ va_pl L (va_up (va_up f dr (eI ε 6 (va_up Dr (n 0).toNat t))) x (.inr (5, [.ref dr, .int (iv ((n 0) + 1)), .ref aP, .ref aL, .ref aT, .ref aC])))) H := hP
    replace hD : WD ε (X ++ va_pl L (va_up (va_up f dr (eI ε 6 (va_up Dr (n 0).toNat t))) x (.inr (5, [.ref dr, .int (iv ((n 0) + 1)), .ref aP, .ref aL, .ref aT, .ref aC])))) := hD
    refine lv_aload_n (pc := 49) hx hb dX4_phase_49 rfl (lv_at hl 0 rfl) ?_
    refine r_get (pc := 50) hC hK hP (in_pl hx0.1.1 (va_up_self _ _ _)) (hc := rfl) (fun w h => wt_0 w h) 1 (by decide) m_0_15 (fun _ h => h) (v := .int (iv ((n 0) + 1))) rfl dX4_phase_50 ?_
    refine c_iret (pc := 53) hC hQ hP hD hS (by decide) (by decide) dX4_phase_53 ?_
    exact ⟨⟨by omega, by omega⟩, rfl, _, _, ρ, rfl, RXC.phase hRC hd0.1 hxd⟩
  · have c_16_ := c_16
    refine c_throw (pc := 19) (cls := nISE) (text := "the draft has all its phases") (ik := 37) (is := 39) (ic := 41) hC hst hQ hE hP hD hS hl.1 (Or.inl ⟨rfl, rfl, rfl⟩) (by decide) dX4_phase_19 dX4_phase_22 dX4_phase_23 dX4_phase_25 dX4_phase_28 ⟨by decide, by decide, by decide, by decide⟩ ⟨by decide, by decide⟩ ?_
    exact Or.inr ⟨⟨by omega, by omega⟩, rfl, rfl⟩
