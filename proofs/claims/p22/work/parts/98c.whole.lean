set_option maxHeartbeats 4000000 in
set_option maxRecDepth 100000 in
theorem whole_start {p : Program} {e : Env} {s : State} {m : MethodId} {below : List Frame} {meth : Method} {c : Code} (l : Launch) (hflags : l.flags = flags0) {b L : Nat} {xs : Nat → Int32} (hL : L ≤ 260) (C0 : lw_At p s m meth c b L xs) : W p l e room_1 s m #[Value.ref b] below meth c s.heap [] 0 0 (lw_Z below #[Value.ref b] s) (entryFrame m ([Value.ref b] : List Value).toArray 4) := by
  obtain ⟨hx, hb, hr, hml, hown, hts, hX, hbl, hlocks, hgv⟩ := id C0
  have hst : l.stackTraces = false := by unfold Launch.stackTraces; rw [hflags]; decide +kernel
  obtain ⟨ε, hε, hE⟩ := env_start hts hgv
  have hbA : ¬ AA ε b := fun z => by have z2 : ε.1 ≤ b := z; omega
  have hC : CTX p s m #[Value.ref b] meth c code 4 ret RL meth.name c.exceptionTable.toList := ⟨hx, hb, hml, hown, fun w hw => hts w (WALL_in w hw), hr, hlocks, rfl, rfl⟩
  have hLB : LBX ε b L xs s meth #[Value.ref b] below (lw_Z below #[Value.ref b] s) := ⟨rfl, hX, hbl, hbA, hL, hε, hr, hlocks, rfl⟩
  have hK := hE.K
  have hP : WP ε ([] : va_W) s.heap := fun k q h => by simp at h
  have hD : WD ε ([] : va_W) := ⟨fun i j p q h => by simp at h, fun k q h => by simp at h⟩
  have hS : WS ε s.heap s.heap [] := va_S.rf
  have hl := lv_entry ([.ref b]) (n := 4) (Nat.le_of_ble_eq_true rfl)
  rw [lg_entry_eq]
  generalize (lg_sl ([.ref b]) ++ List.replicate (4 - (lg_sl ([.ref b])).length) Slot.unset).toArray = ls at hl ⊢
  have hl : lv_has ls 4 [(0, .ref b)] := hl
  refine c_callS (pc := 0) (y := yL_rhythms) (As := []) (rest := []) hC hE hP hD hS hl.1 (A_rhythms l ε hst []) m_0_3 m_0_4 m_0_5 m_0_6 hd_yL_rhythms rfl ⟨⟨by decide, by decide⟩, (Nat.le_of_ble_eq_true rfl), (Nat.le_of_ble_eq_true rfl)⟩ (Nat.le_of_ble_eq_true rfl) rfl dL_law_0 kxN (fun v w_1 H locs hq hP hD hS => ?_)
  refine W.widen (k := 2156) (n := 253022) (Nat.le_of_ble_eq_true rfl) (Nat.le_of_ble_eq_true rfl) ?_
  rw [hq]
  dsimp only [Option.toList, List.cons_append, List.nil_append]
  refine r_if_eq (pc := 3) (a := 1) hx hb dL_law_3 (tgt := 18) (by decide) ⟨by omega, by omega⟩ (fun c_3 => ?_) (fun c_3 => ?_)
  · exact absurd c_3 (by decide)
  · have c_3_ := c_3
    refine c_callS (pc := 6) (y := yL_harbour) (As := []) (rest := []) hC hE hP hD hS hl.1 (A_harbour l ε hst w_1) m_16_12 m_16_13 m_0_5 m_16_14 hd_yL_harbour rfl ⟨⟨by decide, by decide⟩, (Nat.le_of_ble_eq_true rfl), (Nat.le_of_ble_eq_true rfl)⟩ (Nat.le_of_ble_eq_true rfl) rfl dL_law_6 kxN (fun v w_2 H locs hq hP hD hS => ?_)
    refine W.widen (k := 5377) (n := 558444) (Nat.le_of_ble_eq_true rfl) (Nat.le_of_ble_eq_true rfl) ?_
    rw [hq]
    dsimp only [Option.toList, List.cons_append, List.nil_append]
    refine r_if_eq (pc := 9) (a := 1) hx hb dL_law_9 (tgt := 18) (by decide) ⟨by omega, by omega⟩ (fun c_9 => ?_) (fun c_9 => ?_)
    · exact absurd c_9 (by decide)
    · have c_9_ := c_9
      refine c_callS (pc := 12) (y := yL_most) (As := []) (rest := []) hC hE hP hD hS hl.1 (A_most l ε hst w_2) m_16_22 m_16_23 m_0_5 m_16_24 hd_yL_most rfl ⟨⟨by decide, by decide⟩, (Nat.le_of_ble_eq_true rfl), (Nat.le_of_ble_eq_true rfl)⟩ (Nat.le_of_ble_eq_true rfl) rfl dL_law_12 kxN (fun v w_3 H locs hq hP hD hS => ?_)
      refine W.widen (k := 7268) (n := 806028) (Nat.le_of_ble_eq_true rfl) (Nat.le_of_ble_eq_true rfl) ?_
      rw [hq]
      dsimp only [Option.toList, List.cons_append, List.nil_append]
      refine r_if_ne (pc := 15) (a := 1) hx hb dL_law_15 (tgt := 20) (by decide) ⟨by omega, by omega⟩ (fun c_15 => ?_) (fun c_15 => ?_)
      · have c_15_ := c_15
        refine z_new (pc := 20) (ix := 8) (iy := 95) hC hE hS hl.1 m_0_0 m_0_13 dL_law_20 dL_law_23 dL_law_24 ⟨by decide, by decide⟩ ⟨(Nat.le_of_ble_eq_true rfl), (Nat.le_of_ble_eq_true rfl)⟩ (fun x H locs w1 hH hP hD hS => ?_)
        refine lv_astore_n (lv' := [(1, .ref x), (0, .ref b)]) (pc := 27) hx hb dL_law_27 rfl hl (by decide) rfl (fun ls hl => ?_)
        refine lv_iconst (pc := 28) (v := iv 0) hx hb dL_law_28 rfl ?_
        refine lv_istore_n (lv' := [(2, .int (iv 0)), (1, .ref x), (0, .ref b)]) (pc := 29) hx hb dL_law_29 rfl hl (by decide) rfl (fun ls hl => ?_)
        refine W.widen (k := 7274 + 1000 * (0 : Int).toNat) (n := 806064 + 100000 * (0 : Int).toNat) (Nat.le_of_ble_eq_true rfl) (Nat.le_of_ble_eq_true rfl) ?_
        exact law_loop l ε hst 12 0 (Int.le_refl 0) rfl _ _ _ _ _ _ _ _ _ _ _ hC hE hLB _ _ _ _ ⟨_, _, hH, ⟨⟨⟨rfl, rfl⟩, ⟨rfl, rfl⟩, rfl⟩, fun j a b => by exfalso; omega⟩⟩ hP hD hS (lv_sub hl [2, 1, 0] rfl)
      · exact absurd c_15 (by decide)
