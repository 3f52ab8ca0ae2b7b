abbrev rm_c_W_correct : Room := { frames := 8, cells := 3, slots := 20, locals := 260 }
set_option maxRecDepth 100000 in
set_option maxHeartbeats 4000000 in
theorem c_W_correct (l : Launch) (ε : EV) (X : va_W) (L : List Nat) (f : Nat → va_E) (hst : l.stackTraces = false) (ρ : Nat → Int) (x : Nat) (n : Nat → Int) (G : Nat → Nat → Int) (hR : RX (IP L f ρ) ε x n G) (hN : NB n) (hV4 : VCha n G) (h3 : VNot n G) (ch many : Int) (rc : rg ch) (rm9 : rg many) : CT l yX4_correct cX4_correct 5 (some .int) rm_c_W_correct ε [.ref x, .int (iv ch), .int (iv many)] (X ++ va_pl L f) (fun v w => ((0 ≤ ch ∧ ch < n 4) ∧ (1 ≤ many ∧ many ≤ 100)) ∧ v = some (.int (iv (mn many (n 3 - G 12 ch.toNat)))) ∧ ∃ (L2 : List Nat) (f2 : Nat → va_E) (ρ2 : Nat → Int), w = X ++ va_pl L2 f2 ∧ RX (IP L2 f2 ρ2) ε x (n) (PUT ch G (mn many (n 3 - G 12 ch.toNat)).toNat)) (fun E w => (¬ (0 ≤ ch ∧ ch < n 4) ∧ E = nIOE ∧ w = X ++ va_pl L f) ∨ (((0 ≤ ch ∧ ch < n 4) ∧ ¬ (1 ≤ many ∧ many ≤ 100)) ∧ E = nIAE ∧ w = X ++ va_pl L f)) := by
  refine CT.intro (by decide +kernel) (Nat.le_of_ble_eq_true rfl) ?_
  intro p9 e9 s9 m9 a9 bl9 me9 c9 ls Q9 hC hE hP hD hl hQ
  have hx := hC.1
  have hb := hC.2.1
  have hK := hE.K
  have hS : WS ε s9.heap s9.heap [] := va_S.rf
  have hl : lv_has ls 5 [(0, .ref x), (1, .int (iv ch)), (2, .int (iv many))] := hl
  obtain ⟨H, hH⟩ : ∃ H, H = s9.heap := ⟨_, rfl⟩
  obtain ⟨locs, hlo⟩ : ∃ z : List Loc, z = [] := ⟨_, rfl⟩
  rw [← hH] at hP ⊢
  have hS : WS ε s9.heap H locs := by rw [hH, hlo]; exact hS
  rw [← hlo]
  clear hH hlo
  obtain ⟨dr, aP, aL, aT, aC, Dr, eP, eL, eT, eC, hRC⟩ := id hR
  obtain ⟨hx0, hxD, hlP, hlL, hlT, hlC, hpP, hpL, hpT, hpC⟩ := id hRC
  have hnb := hN
  have hxd : x ≠ dr := fun z => by have h1 := hx0.1.2; rw [z, hxD.1.1.2] at h1; cases h1
  refine lv_aload_n (pc := 0) hx hb dX4_correct_0 rfl (lv_at hl 0 rfl) ?_
  refine lv_iload_n (pc := 1) hx hb dX4_correct_1 rfl (lv_at hl 1 rfl) ?_
  refine c_callV (pc := 2) (y := yX4_chartAt) (As := [.int (iv ch)]) (rest := []) hC hE hP hD hS hl.1 (c_E_chartAt l ε (X ++ va_pl L f) hst x n G dr aP aL aT aC Dr eP eL eT eC (RXC.map IP.IN hRC) hN (ch) ⟨by omega, by omega⟩) m_13_19 m_13_20 m_13_21 m_0_2 m_13_22 (in_pl hx0.1.1 hx0.1.2) rfl hd_yX4_chartAt rfl ⟨⟨by decide, by decide⟩, by decide, by decide⟩ (Nat.le_of_ble_eq_true rfl) rfl dX4_correct_2 (fun E ce q9 ws1 H1 locs1 hq hP hD hS h1 h2 h3 => c_out hC hQ hP hD hS h1 h2 h3 (by decide) (by decide) (Or.inl hq)) (fun v ws1 H locs hq hP hD hS => ?_)
  obtain ⟨hc_c, hv_, hw_⟩ := hq
  rw [hw_] at hP hD
  rw [hv_]
  clear hv_ hw_
  dsimp only [Option.toList, List.cons_append, List.nil_append]
  obtain ⟨p_c, S_c, ho_c, hp_c, hs_c⟩ := hpC (ch) hc_c.1 hc_c.2
  have hvc := (hV4.2 ch (by omega) (by omega)).1
  refine lv_astore_n (lv' := [(3, .ref ((eC ch))), (0, .ref x), (1, .int (iv ch)), (2, .int (iv many))]) (pc := 5) hx hb dX4_correct_5 rfl hl (by decide) rfl (fun ls hl => ?_)
  refine lv_iload_n (pc := 6) hx hb dX4_correct_6 rfl (lv_at hl 3 rfl) ?_
  refine lv_iconst (pc := 7) (v := iv 1) hx hb dX4_correct_7 rfl ?_
  refine lv_bipush (pc := 8) (v := iv 100) hx hb dX4_correct_8 (by decide) ?_
  refine c_callS (pc := 10) (y := yX4_requireWithin) (As := [.int (iv many), .int (iv 1), .int (iv 100)]) (rest := []) hC hE hP hD hS hl.1 (c_R_within l ε (X ++ va_pl L f) hst (many) (1) (100) ⟨by omega, by omega⟩ ⟨by omega, by omega⟩ ⟨by omega, by omega⟩) m_5_5 m_5_6 m_0_2 m_5_7 hd_yX4_requireWithin rfl ⟨⟨by decide, by decide⟩, by decide, by decide⟩ (Nat.le_of_ble_eq_true rfl) rfl dX4_correct_10 (fun E ce q9 ws1 H1 locs1 hq hP hD hS h1 h2 h3 => c_out hC hQ hP hD hS h1 h2 h3 (by decide) (by decide) (Or.inr ⟨⟨by omega, fun z => hq.1 z⟩, hq.2⟩)) (fun v ws1 H locs hq hP hD hS => ?_)
  obtain ⟨hg1, hv_, hw_⟩ := hq
  rw [hw_] at hP hD
  rw [hv_]
  clear hv_ hw_
  dsimp only [Option.toList, List.cons_append, List.nil_append]
  refine lv_iload_n (pc := 13) hx hb dX4_correct_13 rfl (lv_at hl 3 rfl) ?_
  refine lv_aload_n (pc := 14) hx hb dX4_correct_14 rfl (lv_at hl 1 rfl) ?_
  refine lv_aload_n (pc := 15) hx hb dX4_correct_15 rfl (lv_at hl 0 rfl) ?_
  refine c_callV (pc := 16) (y := yX4_lackOf) (As := [.ref ((eC ch))]) (rest := [.int (iv many)]) hC hE hP hD hS hl.1 (c_R_lackOf l ε (X ++ va_pl L f) x n G (RX.map IP.IN hR) hN ch (eC ch) (CHAR.map IP.IN (hpC ch hc_c.1 hc_c.2)) ⟨by omega, by omega⟩) m_13_24 m_14_0 m_14_1 m_0_2 m_14_2 (in_pl hx0.1.1 hx0.1.2) rfl hd_yX4_lackOf rfl ⟨⟨by decide, by decide⟩, by decide, by decide⟩ (Nat.le_of_ble_eq_true rfl) rfl dX4_correct_16 kxN (fun v ws1 H locs hq hP hD hS => ?_)
  rw [hq.2] at hP hD
  rw [hq.1]
  dsimp only [Option.toList, List.cons_append, List.nil_append]
  refine r_min (pc := 19) (x := many) (y := n 3 - G 12 ch.toNat) hC hl.1 m_13_7 (by decide) (Nat.le_of_ble_eq_true rfl) (by decide) (by decide) ⟨by omega, by omega⟩ ⟨by omega, by omega⟩ dX4_correct_19 ?_
  have hmn_19 : (mn many (n 3 - G 12 ch.toNat) = many ∨ mn many (n 3 - G 12 ch.toNat) = n 3 - G 12 ch.toNat) ∧ mn many (n 3 - G 12 ch.toNat) ≤ many ∧ mn many (n 3 - G 12 ch.toNat) ≤ n 3 - G 12 ch.toNat := by unfold mn; split <;> omega
  refine lv_istore (lv' := [(4, .int (iv (mn many (n 3 - G 12 ch.toNat)))), (3, .ref ((eC ch))), (0, .ref x), (1, .int (iv ch)), (2, .int (iv many))]) (pc := 22) hx hb dX4_correct_22 hl (by decide) rfl (fun ls hl => ?_)
  refine lv_aload_n (pc := 24) hx hb dX4_correct_24 rfl (lv_at hl 2 rfl) ?_
  refine lv_aload_n (pc := 25) hx hb dX4_correct_25 rfl (lv_at hl 1 rfl) ?_
  refine lv_iload (pc := 26) hx hb dX4_correct_26 (lv_at hl 0 rfl) ?_
  refine c_callV (pc := 28) (y := yX4_putIn) (As := [.ref ((eC ch)), .int (iv (mn many (n 3 - G 12 ch.toNat)))]) (rest := []) hC hE hP hD hS hl.1 (c_W_putIn l ε X L f ρ x n G dr aP aL aT aC Dr eP eL eT eC ch (eC ch) (RXC.toQ hRC hc_c) hN ⟨by omega, by omega⟩ hvc h3 (mn many (n 3 - G 12 ch.toNat)) ⟨by omega, by omega⟩) m_13_2 m_13_3 m_13_4 m_0_2 m_13_5 (in_pl hx0.1.1 hx0.1.2) rfl hd_yX4_putIn rfl ⟨⟨by decide, by decide⟩, by decide, by decide⟩ (Nat.le_of_ble_eq_true rfl) rfl dX4_correct_28 kxN (fun v ws1 H locs hq hP hD hS => ?_)
  obtain ⟨hv_, f2, hw_, hq2⟩ := hq
  rw [hw_] at hP hD
  rw [hv_]
  clear hv_ hw_
  dsimp only [Option.toList, List.cons_append, List.nil_append]
  refine lv_iload (pc := 31) hx hb dX4_correct_31 (lv_at hl 0 rfl) ?_
  refine c_iret (pc := 33) hC hQ hP hD hS (by decide) (by decide) dX4_correct_33 ?_
  exact ⟨⟨by omega, by omega⟩, rfl, L, f2, ρ, rfl, by rw [mn_fix (by omega)] at hq2; exact (RQC.back hq2).mk⟩
