set_option maxHeartbeats 4000000 in
set_option maxRecDepth 100000 in
theorem whole_start {p : Program} {e : Env} {s : State} {m : MethodId} {below : List Frame} {meth : Method} {c : Code} (l : Launch) (hflags : l.flags = flags0) {b L : Nat} {xs : Nat → Int32} (hL : L ≤ 3584) (C0 : lw_At p s m meth c b L xs) : W p l e room_1 s m #[Value.ref b] below meth c s.heap [] 0 0 (lw_Z below #[Value.ref b] s) (entryFrame m ([Value.ref b] : List Value).toArray 7) := by
  obtain ⟨hx, hb, hr, hml, hown, hts, hX, hbl, hlocks, hgv⟩ := id C0
  have hst : l.stackTraces = false := by unfold Launch.stackTraces; rw [hflags]; decide +kernel
  obtain ⟨ε, hε, hE⟩ := env_start hts hgv
  have hbA : ¬ AA ε b := fun z => by have z2 : ε.1 ≤ b := z; omega
  have hC : CTX p s m #[Value.ref b] meth c code 7 ret RL meth.name c.exceptionTable.toList := ⟨hx, hb, hml, hown, fun w hw => hts w (WALL_in w hw), hr, hlocks, rfl, rfl⟩
  have h0 : LC0 p l s m b L xs meth c ε := ⟨⟨_, _, hC⟩, hE, hst, hX, hbl, hbA, hL, hε⟩
  have hK := hE.K
  have hP : WP ε ([] ++ va_pl [] (fun _ => .inr (0, []))) s.heap := fun k q h => by simp [va_pl] at h
  have hD : WD ε ([] ++ va_pl [] (fun _ => .inr (0, []))) := ⟨fun i j p q h => by simp [va_pl] at h, fun k q h => by simp [va_pl] at h⟩
  have hS : WS ε s.heap s.heap [] := va_S.rf
  have hl := lv_entry ([.ref b]) (n := 7) (Nat.le_of_ble_eq_true rfl)
  rw [lg_entry_eq]
  generalize (lg_sl ([.ref b]) ++ List.replicate (7 - (lg_sl ([.ref b])).length) Slot.unset).toArray = ls at hl ⊢
  have hl : lv_has ls 7 [(0, .ref b)] := hl
  refine p_new (pc := 0) (ci := 5) (fs := [.null, .int (iv 0), .null, .null, .null, .null]) (C := RX4) (T := TX4) (N := 6) hC hE hP hD hS rfl (fun w h => wt_0 w h) tyX4 tyX4_ok m_0_0 m_0_1 m_0_2 (fun j hj => by match j, hj with | 0, _ => rfl | 1, _ => rfl | 2, _ => rfl | 3, _ => rfl | 4, _ => rfl | 5, _ => rfl) (by decide) (by decide) dL_law_0 (fun x H hxq hP hD hS => ?_)
  refine lv_dup (pc := 3) hx hb dL_law_3 rfl ?_
  refine c_callI (pc := 4) (y := yX4_init) (As := []) (rest := [.ref x]) hC hE hP hD hS hl.1 (c_R_init l ε [] ([] ++ [x]) (va_up (fun _ => .inr (0, [])) x (.inr (5, [.null, .int (iv 0), .null, .null, .null, .null]))) (fun _ => 0) x (List.mem_append_right _ (List.mem_singleton.mpr rfl)) (va_up_self _ _ _)) m_0_7 m_0_8 m_0_2 m_0_9 rfl hd_yX4_init rfl ⟨⟨by decide, by decide⟩, by decide, by decide⟩ (Nat.le_of_ble_eq_true rfl) rfl dL_law_4 (fun v9 w9 H locs hq hP hD hS => ?_)
  obtain ⟨hv_, L2, f2, ρ2, hw_, -, hRX⟩ := hq
  rw [hw_] at hP hD
  rw [hv_]
  clear hv_ hw_
  dsimp only [Option.toList, List.cons_append, List.nil_append]
  refine lv_astore_n (lv' := [(1, .ref x), (0, .ref b)]) (pc := 7) hx hb dL_law_7 rfl hl (by decide) rfl (fun ls hl => ?_)
  refine q_new (pc := 8) (ci := 6) (fs := [.null, .int (iv 0), .int (iv 0), .null, .null, .null, .int (iv 0), .null, .null, .null, .null, .null, .null, .null, .null, .int (iv 0), .int (iv 0), .null, .null, .int (iv 0)]) (C := RX5) (T := TX5) (N := 20) hC hE hP hD hS rfl (fun w h => wt_1 w h) tyX5 tyX5_ok m_0_3 m_0_4 m_0_5 (fun j hj => by match j, hj with | 0, _ => rfl | 1, _ => rfl | 2, _ => rfl | 3, _ => rfl | 4, _ => rfl | 5, _ => rfl | 6, _ => rfl | 7, _ => rfl | 8, _ => rfl | 9, _ => rfl | 10, _ => rfl | 11, _ => rfl | 12, _ => rfl | 13, _ => rfl | 14, _ => rfl | 15, _ => rfl | 16, _ => rfl | 17, _ => rfl | 18, _ => rfl | 19, _ => rfl | k + 20, h => exact absurd h (by omega)) (by decide) (by decide) dL_law_8 (fun m0 H hP hD hS => ?_)
  refine lv_dup (pc := 11) hx hb dL_law_11 rfl ?_
  refine c_callI (pc := 12) (y := yX5_init) (As := []) (rest := [.ref m0]) hC hE hP hD hS hl.1 (c_m_init l ε ([] ++ va_pl L2 f2) m0) m_1_13 m_1_14 m_0_5 m_1_15 rfl hd_yX5_init rfl ⟨⟨by decide, by decide⟩, by decide, by decide⟩ (Nat.le_of_ble_eq_true rfl) rfl dL_law_12 (fun v9 w9 H locs hq hP hD hS => ?_)
  obtain ⟨hv_, ad, hw_⟩ := hq
  rw [hw_] at hP hD
  rw [hv_]
  clear hv_ hw_
  dsimp only [Option.toList, List.cons_append, List.nil_append]
  refine lv_astore_n (lv' := [(2, .ref m0), (1, .ref x), (0, .ref b)]) (pc := 15) hx hb dL_law_15 rfl hl (by decide) rfl (fun ls hl => ?_)
  refine lv_iconst (pc := 16) (v := iv 1) hx hb dL_law_16 rfl ?_
  refine q_newJ (pc := 17) (z := 1) (N := 1) hC hE hP hD hS rfl (by decide) (by decide) (by decide) m_0_6 dL_law_17 (fun o H hP hD hS => ?_)
  refine lv_astore_n (lv' := [(3, .ref o), (2, .ref m0), (1, .ref x), (0, .ref b)]) (pc := 19) hx hb dL_law_19 rfl hl (by decide) rfl (fun ls hl => ?_)
  refine lv_iconst (pc := 20) (v := iv 0) hx hb dL_law_20 rfl ?_
  refine lv_istore (lv' := [(4, .int (iv 0)), (3, .ref o), (2, .ref m0), (1, .ref x), (0, .ref b)]) (pc := 21) hx hb dL_law_21 hl (by decide) rfl (fun ls hl => ?_)
  have hl : lv_has ls 7 (LLO b x m0 o 0) := by
    have e0 : iv (7 * ((0 : Nat) : Int)) = iv 0 := rfl
    unfold LLO
    rw [e0]
    exact lv_sub hl [0, 4, 3, 2, 1] rfl
  rw [List.append_assoc] at hP hD
  refine W.widen (k := 40 + 20 * 0) (n := 5000 + 3400 * 0) (by decide) (by decide) ?_
  exact law_loop hr hlocks h0 513 0 rfl (fun _ => 0) (fun _ _ => 0) (fun _ => 0) L2 f2 ρ2 _ _ _ ⟨INV0, by decide, hRX _ _ ⟨rfl, rfl, rfl, rfl, rfl⟩⟩ hP hD hS hl
