/-! the law's helpers -/
theorem K_phaseL (l : Launch) (ε : EV) (hst : l.stackTraces = false) {x : Nat} {n : Nat → Int} {G : Nat → Nat → Int} {w : va_W} (hH : HS ε x n G w) (k k1 t : Int) (hk : n 0 = k) (hk1 : k1 = k + 1) (h6 : k < 6) (ht : 1 ≤ t ∧ t ≤ 9) : CT l yX4_phase cX4_phase 2 (some .int) rm_c_W_phase ε [.ref x, .int (iv t)] w (fun v w9 => v = some (.int (iv k1)) ∧ HS ε x (va_up n 0 k1) (va_up G 0 (va_up (G 0) k.toNat t)) w9) NX := by
  subst hk
  subst hk1
  exact K_phase l ε hst hH t ht h6
theorem INV0 : INV (fun _ => 0) (fun _ _ => 0) := by
  refine ⟨⟨by decide, fun k a b => ?_⟩, ⟨by decide, fun q a b => ?_⟩, ⟨by decide, fun i a b => ?_⟩, ⟨by decide, fun c a b => ?_⟩, ⟨by decide, fun j a b => ?_⟩, fun _ _ => rfl, fun _ _ => ⟨rfl, rfl⟩, fun _ _ => rfl⟩
  all_goals (exfalso; dsimp only at b; omega)
def S0 : ST := ([], [])
theorem INV_S0 : INV (nS S0) (gS S0) := by
  have e1 : nS S0 = fun _ => 0 := by funext k; simp [nS, S0]
  have e2 : gS S0 = fun _ _ => 0 := by funext r k; simp [gS, S0]
  rw [e1, e2]
  exact INV0
section ZNEW
variable {p : Program} {l : Launch} {e : Env} {R : Room} {s : State} {m : MethodId} {args : Array Value} {below : List Frame} {meth : Method} {c : Code} {H : Heap} {locs : List Loc} {cells slots : Nat} {Q : State → Prop}
variable {cc : ByteArray} {pc : Nat} {ls : Array Slot} {ε : EV} {mL : Nat} {ret : Option FieldType} {nm : String} {tb : List ExceptionTableEntry}
set_option maxRecDepth 100000 in
theorem z_new {ix iy : Nat} (hC : CTX p s m args meth c cc mL ret RL nm tb) (hE : ENV ε s s.heap) (hS : WS ε s.heap H locs) (hsz : ls.size = mL) (w1 : Cond.classLink RL ix RX4 ∈ WALL) (w2 : Cond.methodLink RL iy yX4_init ∈ WALL)
    (d0 : decode cc pc = .ok (.new ix, 3)) (d3 : decode cc (pc + 3) = .ok (.dup, 1)) (d4 : decode cc (pc + 3 + 1) = .ok (.invokespecial iy, 3))
    (hR1 : 5 ≤ R.frames ∧ 140 ≤ R.locals) (hR2 : cells + 6 ≤ R.cells ∧ slots + 36 ≤ R.slots)
    (kk : ∀ (q : Nat) (H1 : Heap) (locs1 : List Loc) (w : va_W), HC ε q S0 w → WP ε w H1 → WD ε w → WS ε s.heap H1 locs1 → W p l e R s m args below meth c H1 locs1 (cells + 6) (slots + 36) Q (F0 m (pc + 3 + 1 + 3) ls [.ref q])) : W p l e R s m args below meth c H locs cells slots Q (F0 m pc ls []) := by
  have hx := hC.1
  have hb := hC.2.1
  have hP : WP ε ([] ++ va_pl [] (fun _ => .inr (0, []))) H := fun k q h => by simp [va_pl] at h
  have hD : WD ε ([] ++ va_pl [] (fun _ => .inr (0, []))) := ⟨fun i j p q h => by simp [va_pl] at h, fun k q h => by simp [va_pl] at h⟩
  refine p_new (pc := pc) (ci := 5) (fs := [.null, .int (iv 0), .null, .null, .null, .null]) (C := RX4) (T := TX4) (N := 6) hC hE hP hD hS rfl (fun w h => wt_0 w h) tyX4 tyX4_ok w1 m_0_1 m_0_2 (fun j hj => by match j, hj with | 0, _ => rfl | 1, _ => rfl | 2, _ => rfl | 3, _ => rfl | 4, _ => rfl | 5, _ => rfl) (by omega) (by omega) d0 (fun q H hxq hP hD hS => ?_)
  refine lv_dup (pc := pc + 3) hx hb d3 rfl ?_
  refine c_callI (pc := pc + 3 + 1) (y := yX4_init) (As := []) (rest := [.ref q]) hC hE hP hD hS hsz (c_R_init l ε [] ([] ++ [q]) (va_up (fun _ => .inr (0, [])) q (.inr (5, [.null, .int (iv 0), .null, .null, .null, .null]))) (fun _ => 0) q (List.mem_append_right _ (List.mem_singleton.mpr rfl)) (va_up_self _ _ _)) w2 m_0_14 m_0_2 m_0_15 rfl hd_yX4_init rfl ⟨⟨by show 5 ≤ R.frames; omega, by show 8 + (1 + 11) + 120 ≤ R.locals; omega⟩, by show cells + 1 + 5 ≤ R.cells; omega, by show slots + 6 + 30 ≤ R.slots; omega⟩ (Nat.le_of_ble_eq_true rfl) rfl d4 (fun v9 w9 H locs hq hP hD hS => ?_)
  obtain ⟨hv_, L2, f2, ρ2, hw_, -, hRX⟩ := hq
  rw [hv_]
  dsimp only [Option.toList, List.cons_append, List.nil_append]
  refine W.widen (k := cells + 6) (n := slots + 36) (by show cells + 1 + 5 ≤ cells + 6; omega) (by show slots + 6 + 30 ≤ slots + 36; omega) ?_
  exact kk q _ _ w9 ⟨[], L2, f2, ρ2, hw_, hRX _ _ ⟨rfl, rfl, rfl, rfl, rfl⟩, INV_S0⟩ hP hD hS
end ZNEW
abbrev rm_A_alike : Room := { frames := 9, cells := 8, slots := 48, locals := 230 }
set_option maxRecDepth 100000 in
set_option maxHeartbeats 4000000 in
theorem A_alike (l : Launch) (ε : EV) {x : Nat} {n : Nat → Int} {G : Nat → Nat → Int} {wd : va_W} (hst : l.stackTraces = false) (hH : HS ε x n G wd) (q r : Int) (hqa : 0 ≤ q ∧ q < n 1) (hra : 0 ≤ r ∧ r < n 1) (are : Bool) (e1 : ph1B G q r = are) (e2 : ph1B G r q = are) (e3 : sc1B G q r = are) (e4 : sc1B G r q = are) : CT l yL_alike cL_alike 4 (some .boolean) rm_A_alike ε [.ref x, .int (iv q), .int (iv r), .int (iv (bz are))] (wd) (fun v w9 => v = some (.int (iv 1)) ∧ w9 = wd) NX := by
  refine CT.intro (by decide +kernel) (Nat.le_of_ble_eq_true rfl) ?_
  intro p9 e9 s9 m9 a9 bl9 me9 c9 ls Q9 hC hE hP hD hl hQ
  have hx := hC.1
  have hb := hC.2.1
  have hK := hE.K
  have hS : WS ε s9.heap s9.heap [] := va_S.rf
  have hl : lv_has ls 4 [(0, .ref x), (1, .int (iv q)), (2, .int (iv r)), (3, .int (iv (bz are)))] := hl
  obtain ⟨H, hH⟩ : ∃ H, H = s9.heap := ⟨_, rfl⟩
  obtain ⟨locs, hlo⟩ : ∃ z : List Loc, z = [] := ⟨_, rfl⟩
  rw [← hH] at hP ⊢
  have hS : WS ε s9.heap H locs := by rw [hH, hlo]; exact hS
  rw [← hlo]
  clear hH hlo
  obtain ⟨fo, hob⟩ := hH.ob
  have hN := hH.inv.NB
  have hI := hH.inv
  refine lv_aload_n (pc := 0) hx hb dL_alike_0 rfl (lv_at hl 0 rfl) ?_
  refine lv_iload_n (pc := 1) hx hb dL_alike_1 rfl (lv_at hl 1 rfl) ?_
  refine lv_iload_n (pc := 2) hx hb dL_alike_2 rfl (lv_at hl 2 rfl) ?_
  refine c_callV (pc := 3) (y := yX4_areAlike) (As := [.int (iv q), .int (iv r)]) (rest := []) hC hE hP hD hS hl.1 (K_areAlike l ε hst hH q r hqa hra) m_8_20 m_8_21 m_8_22 m_0_2 m_8_23 hob rfl hd_yX4_areAlike rfl ⟨⟨by decide, by decide⟩, (Nat.le_of_ble_eq_true rfl), (Nat.le_of_ble_eq_true rfl)⟩ (Nat.le_of_ble_eq_true rfl) rfl dL_alike_3 kxN (fun v w_1 H locs hq hP hD hS => ?_)
  refine W.widen (k := 2) (n := 12) (Nat.le_of_ble_eq_true rfl) (Nat.le_of_ble_eq_true rfl) ?_
  rw [hq.2] at hP hD
  rw [hq.1]
  dsimp only [Option.toList, List.cons_append, List.nil_append]
  refine lv_iload_n (pc := 6) hx hb dL_alike_6 rfl (lv_at hl 3 rfl) ?_
  refine r_icmp_ne (pc := 7) (a := bz (ph1B G q r)) (b := bz are) hx hb dL_alike_7 (tgt := 44) (by decide) (bz_rg _) (bz_rg _) (fun c_7 => ?_) (fun c_7 => ?_)
  · have c_7_ := c_7
    exact absurd (congrArg bz e1) c_7
  · have c_7_ := c_7
    refine lv_aload_n (pc := 10) hx hb dL_alike_10 rfl (lv_at hl 0 rfl) ?_
    refine lv_iload_n (pc := 11) hx hb dL_alike_11 rfl (lv_at hl 2 rfl) ?_
    refine lv_iload_n (pc := 12) hx hb dL_alike_12 rfl (lv_at hl 1 rfl) ?_
    refine c_callV (pc := 13) (y := yX4_areAlike) (As := [.int (iv r), .int (iv q)]) (rest := []) hC hE hP hD hS hl.1 (K_areAlike l ε hst hH r q hra hqa) m_8_20 m_8_21 m_8_22 m_0_2 m_8_23 hob rfl hd_yX4_areAlike rfl ⟨⟨by decide, by decide⟩, (Nat.le_of_ble_eq_true rfl), (Nat.le_of_ble_eq_true rfl)⟩ (Nat.le_of_ble_eq_true rfl) rfl dL_alike_13 kxN (fun v w_2 H locs hq hP hD hS => ?_)
    refine W.widen (k := 4) (n := 24) (Nat.le_of_ble_eq_true rfl) (Nat.le_of_ble_eq_true rfl) ?_
    rw [hq.2] at hP hD
    rw [hq.1]
    dsimp only [Option.toList, List.cons_append, List.nil_append]
    refine lv_iload_n (pc := 16) hx hb dL_alike_16 rfl (lv_at hl 3 rfl) ?_
    refine r_icmp_ne (pc := 17) (a := bz (ph1B G r q)) (b := bz are) hx hb dL_alike_17 (tgt := 44) (by decide) (bz_rg _) (bz_rg _) (fun c_17 => ?_) (fun c_17 => ?_)
    · have c_17_ := c_17
      exact absurd (congrArg bz e2) c_17
    · have c_17_ := c_17
      refine lv_aload_n (pc := 20) hx hb dL_alike_20 rfl (lv_at hl 0 rfl) ?_
      refine lv_iload_n (pc := 21) hx hb dL_alike_21 rfl (lv_at hl 1 rfl) ?_
      refine lv_iload_n (pc := 22) hx hb dL_alike_22 rfl (lv_at hl 2 rfl) ?_
      refine c_callV (pc := 23) (y := yX4_areAlikeBySeconds) (As := [.int (iv q), .int (iv r)]) (rest := []) hC hE hP hD hS hl.1 (K_areAlikeBySeconds l ε hst hH q r hqa hra) m_8_24 m_9_0 m_9_1 m_0_2 m_9_2 hob rfl hd_yX4_areAlikeBySeconds rfl ⟨⟨by decide, by decide⟩, (Nat.le_of_ble_eq_true rfl), (Nat.le_of_ble_eq_true rfl)⟩ (Nat.le_of_ble_eq_true rfl) rfl dL_alike_23 kxN (fun v w_3 H locs hq hP hD hS => ?_)
      refine W.widen (k := 6) (n := 36) (Nat.le_of_ble_eq_true rfl) (Nat.le_of_ble_eq_true rfl) ?_
      rw [hq.2] at hP hD
      rw [hq.1]
      dsimp only [Option.toList, List.cons_append, List.nil_append]
      refine lv_iload_n (pc := 26) hx hb dL_alike_26 rfl (lv_at hl 3 rfl) ?_
      refine r_icmp_ne (pc := 27) (a := bz (sc1B G q r)) (b := bz are) hx hb dL_alike_27 (tgt := 44) (by decide) (bz_rg _) (bz_rg _) (fun c_27 => ?_) (fun c_27 => ?_)
      · have c_27_ := c_27
        exact absurd (congrArg bz e3) c_27
      · have c_27_ := c_27
        refine lv_aload_n (pc := 30) hx hb dL_alike_30 rfl (lv_at hl 0 rfl) ?_
        refine lv_iload_n (pc := 31) hx hb dL_alike_31 rfl (lv_at hl 2 rfl) ?_
        refine lv_iload_n (pc := 32) hx hb dL_alike_32 rfl (lv_at hl 1 rfl) ?_
        refine c_callV (pc := 33) (y := yX4_areAlikeBySeconds) (As := [.int (iv r), .int (iv q)]) (rest := []) hC hE hP hD hS hl.1 (K_areAlikeBySeconds l ε hst hH r q hra hqa) m_8_24 m_9_0 m_9_1 m_0_2 m_9_2 hob rfl hd_yX4_areAlikeBySeconds rfl ⟨⟨by decide, by decide⟩, (Nat.le_of_ble_eq_true rfl), (Nat.le_of_ble_eq_true rfl)⟩ (Nat.le_of_ble_eq_true rfl) rfl dL_alike_33 kxN (fun v w_4 H locs hq hP hD hS => ?_)
        refine W.widen (k := 8) (n := 48) (Nat.le_of_ble_eq_true rfl) (Nat.le_of_ble_eq_true rfl) ?_
        rw [hq.2] at hP hD
        rw [hq.1]
        dsimp only [Option.toList, List.cons_append, List.nil_append]
        refine lv_iload_n (pc := 36) hx hb dL_alike_36 rfl (lv_at hl 3 rfl) ?_
        refine r_icmp_ne (pc := 37) (a := bz (sc1B G r q)) (b := bz are) hx hb dL_alike_37 (tgt := 44) (by decide) (bz_rg _) (bz_rg _) (fun c_37 => ?_) (fun c_37 => ?_)
        · have c_37_ := c_37
          exact absurd (congrArg bz e4) c_37
        · have c_37_ := c_37
          refine lv_iconst (pc := 40) (v := iv 1) hx hb dL_alike_40 rfl ?_
          refine lv_goto (pc := 41) (tgt := 45) hx hb dL_alike_41 (by decide) ?_
          refine c_zret (pc := 45) hC hQ hP hD hS (by decide) (by decide) dL_alike_45 nz_1 ?_
          exact ⟨rfl, rfl⟩

abbrev rm_A_sector : Room := { frames := 9, cells := 3, slots := 18, locals := 230 }
set_option maxRecDepth 100000 in
set_option maxHeartbeats 4000000 in
theorem A_sector (l : Launch) (ε : EV) {x : Nat} {n : Nat → Int} {G : Nat → Nat → Int} {wd : va_W} (hst : l.stackTraces = false) (hH : HS ε x n G wd) (a b due : Int) (h2 : 0 < n 2) (ha : -10 ≤ a ∧ a ≤ 21) (hb9 : -10 ≤ b ∧ b ≤ 21) (rd : rg due) (es9 : sectB (10 + a - G 4 (0 : Int).toNat) (10 + b - G 5 (0 : Int).toNat) = due) : CT l yL_sector cL_sector 4 (some .boolean) rm_A_sector ε [.ref x, .int (iv a), .int (iv b), .int (iv due)] (wd) (fun v w9 => v = some (.int (iv 1)) ∧ w9 = wd) NX := by
  refine CT.intro (by decide +kernel) (Nat.le_of_ble_eq_true rfl) ?_
  intro p9 e9 s9 m9 a9 bl9 me9 c9 ls Q9 hC hE hP hD hl hQ
  have hx := hC.1
  have hb := hC.2.1
  have hK := hE.K
  have hS : WS ε s9.heap s9.heap [] := va_S.rf
  have hl : lv_has ls 4 [(0, .ref x), (1, .int (iv a)), (2, .int (iv b)), (3, .int (iv due))] := hl
  obtain ⟨H, hH⟩ : ∃ H, H = s9.heap := ⟨_, rfl⟩
  obtain ⟨locs, hlo⟩ : ∃ z : List Loc, z = [] := ⟨_, rfl⟩
  rw [← hH] at hP ⊢
  have hS : WS ε s9.heap H locs := by rw [hH, hlo]; exact hS
  rw [← hlo]
  clear hH hlo
  obtain ⟨fo, hob⟩ := hH.ob
  have hN := hH.inv.NB
  have hI := hH.inv
  refine lv_aload_n (pc := 0) hx hb dL_sector_0 rfl (lv_at hl 0 rfl) ?_
  refine lv_iconst (pc := 1) (v := iv 0) hx hb dL_sector_1 rfl ?_
  refine lv_bipush (pc := 2) (v := iv 10) hx hb dL_sector_2 (by decide) ?_
  refine lv_iload_n (pc := 4) hx hb dL_sector_4 rfl (lv_at hl 1 rfl) ?_
  refine r_iadd (pc := 5) (a := 10) (b := a) hx hb dL_sector_5 ?_
  refine lv_bipush (pc := 6) (v := iv 10) hx hb dL_sector_6 (by decide) ?_
  refine lv_iload_n (pc := 8) hx hb dL_sector_8 rfl (lv_at hl 2 rfl) ?_
  refine r_iadd (pc := 9) (a := 10) (b := b) hx hb dL_sector_9 ?_
  refine c_callV (pc := 10) (y := yX4_sector) (As := [.int (iv 0), .int (iv (10 + a)), .int (iv (10 + b))]) (rest := []) hC hE hP hD hS hl.1 (K_sector l ε hst hH 0 (10 + a) (10 + b) ⟨by omega, h2⟩ ⟨⟨by omega, by omega⟩, by omega, by omega⟩) m_11_6 m_11_7 m_11_8 m_0_2 m_11_9 hob rfl hd_yX4_sector rfl ⟨⟨by decide, by decide⟩, (Nat.le_of_ble_eq_true rfl), (Nat.le_of_ble_eq_true rfl)⟩ (Nat.le_of_ble_eq_true rfl) rfl dL_sector_10 kxN (fun v w_1 H locs hq hP hD hS => ?_)
  refine W.widen (k := 3) (n := 18) (Nat.le_of_ble_eq_true rfl) (Nat.le_of_ble_eq_true rfl) ?_
  rw [hq.2] at hP hD
  rw [hq.1]
  dsimp only [Option.toList, List.cons_append, List.nil_append]
  refine lv_iload_n (pc := 13) hx hb dL_sector_13 rfl (lv_at hl 3 rfl) ?_
  refine r_icmp_ne (pc := 14) (a := sectB (10 + a - G 4 (0 : Int).toNat) (10 + b - G 5 (0 : Int).toNat)) (b := due) hx hb dL_sector_14 (tgt := 21) (by decide) (by rw [es9]; exact rd) rd (fun c_14 => ?_) (fun c_14 => ?_)
  · have c_14_ := c_14
    exact absurd es9 c_14
  · have c_14_ := c_14
    refine lv_iconst (pc := 17) (v := iv 1) hx hb dL_sector_17 rfl ?_
    refine lv_goto (pc := 18) (tgt := 22) hx hb dL_sector_18 (by decide) ?_
    refine c_zret (pc := 22) hC hQ hP hD hS (by decide) (by decide) dL_sector_22 nz_1 ?_
    exact ⟨rfl, rfl⟩

abbrev rm_A_shines : Room := { frames := 9, cells := 60, slots := 400, locals := 230 }
set_option maxRecDepth 100000 in
set_option maxHeartbeats 4000000 in
theorem A_shines (l : Launch) (ε : EV) {x : Nat} {n : Nat → Int} {G : Nat → Nat → Int} {wd : va_W} (hst : l.stackTraces = false) (hH : HS ε x n G wd) (la fr many fg : Int) (hla : 0 ≤ la ∧ la < n 2) (hfr : 0 ≤ fr ∧ fr + many ≤ 100001) (hmy : 0 ≤ many ∧ many ≤ 20) (hfg : 0 ≤ fg ∧ fg < 2147483648) (hs : ∀ k : Int, 0 ≤ k → k < many → ON G la (fr + k) = decide (fg / 2 ^ k.toNat % 2 = 1)) : CT l yL_shines cL_shines 6 (some .boolean) rm_A_shines ε [.ref x, .int (iv la), .int (iv fr), .int (iv many), .int (iv fg)] (wd) (fun v w9 => v = some (.int (iv 1)) ∧ w9 = wd) NX := by
  refine CT.intro (by decide +kernel) (Nat.le_of_ble_eq_true rfl) ?_
  intro p9 e9 s9 m9 a9 bl9 me9 c9 ls Q9 hC hE hP hD hl hQ
  have hx := hC.1
  have hb := hC.2.1
  have hK := hE.K
  have hS : WS ε s9.heap s9.heap [] := va_S.rf
  have hl : lv_has ls 6 [(0, .ref x), (1, .int (iv la)), (2, .int (iv fr)), (3, .int (iv many)), (4, .int (iv fg))] := hl
  obtain ⟨H, hH⟩ : ∃ H, H = s9.heap := ⟨_, rfl⟩
  obtain ⟨locs, hlo⟩ : ∃ z : List Loc, z = [] := ⟨_, rfl⟩
  rw [← hH] at hP ⊢
  have hS : WS ε s9.heap H locs := by rw [hH, hlo]; exact hS
  rw [← hlo]
  clear hH hlo
  obtain ⟨fo, hob⟩ := hH.ob
  have hN := hH.inv.NB
  have hI := hH.inv
  refine lv_iconst (pc := 0) (v := iv 0) hx hb dL_shines_0 rfl ?_
  refine lv_istore (lv' := [(5, .int (iv 0)), (0, .ref x), (1, .int (iv la)), (2, .int (iv fr)), (3, .int (iv many)), (4, .int (iv fg))]) (pc := 1) hx hb dL_shines_1 hl (by decide) rfl (fun ls hl => ?_)
  have lp_3 : ∀ (k9 : Nat) (k : Int) (hk : 0 ≤ k ∧ k ≤ many) , ((many - k).toNat) < k9 → ∀ (H : Heap) (locs : List Loc) (ls : Array Slot), WP ε (wd) H → WD ε (wd) → WS ε s9.heap H locs → lv_has ls 6 [(0, .ref x), (1, .int (iv la)), (2, .int (iv fr)), (3, .int (iv many)), (4, .int (iv fg)), (5, .int (iv k))] → W p9 l e9 rm_A_shines s9 m9 a9 bl9 me9 c9 H locs (2 * k.toNat) (12 * k.toNat) Q9 (F0 m9 3 ls []) := by
    intro k9
    induction k9 with
    | zero => intro k hk h9; exact absurd h9 (Nat.not_lt_zero _)
    | succ k9 ih_3 =>
      intro k hk h9 H locs ls hP hD hS hl
      refine lv_iload (pc := 3) hx hb dL_shines_3 (lv_at hl 5 rfl) ?_
      refine lv_iload_n (pc := 5) hx hb dL_shines_5 rfl (lv_at hl 3 rfl) ?_
      refine r_icmp_ge (pc := 6) (a := k) (b := many) hx hb dL_shines_6 (tgt := 45) (by decide) ⟨by omega, by omega⟩ ⟨by omega, by omega⟩ (fun c_6 => ?_) (fun c_6 => ?_)
      · have c_6_ := c_6
        refine W.widen (k := 60) (n := 400) (by omega) (by omega) ?_
        refine lv_iconst (pc := 45) (v := iv 1) hx hb dL_shines_45 rfl ?_
        refine c_zret (pc := 46) hC hQ hP hD hS (by decide) (by decide) dL_shines_46 nz_1 ?_
        exact ⟨rfl, rfl⟩
      · have c_6_ := c_6
        refine lv_aload_n (pc := 9) hx hb dL_shines_9 rfl (lv_at hl 0 rfl) ?_
        refine lv_iload_n (pc := 10) hx hb dL_shines_10 rfl (lv_at hl 1 rfl) ?_
        refine lv_iload_n (pc := 11) hx hb dL_shines_11 rfl (lv_at hl 2 rfl) ?_
        refine lv_iload (pc := 12) hx hb dL_shines_12 (lv_at hl 5 rfl) ?_
        refine r_iadd (pc := 14) (a := fr) (b := k) hx hb dL_shines_14 ?_
        refine c_callV (pc := 15) (y := yX4_shines) (As := [.int (iv la), .int (iv (fr + k))]) (rest := []) hC hE hP hD hS hl.1 (K_shines l ε hst hH la (fr + k) hla ⟨by omega, by omega⟩) m_10_21 m_10_22 m_10_23 m_0_2 m_10_24 hob rfl hd_yX4_shines rfl ⟨⟨by decide, by decide⟩, (by show (2 * k.toNat + 0) + 2 ≤ 60; omega), (by show (12 * k.toNat + 0) + 12 ≤ 400; omega)⟩ (Nat.le_of_ble_eq_true rfl) rfl dL_shines_15 kxN (fun v w_1 H locs hq hP hD hS => ?_)
        refine W.widen (k := (2 * k.toNat + 2)) (n := (12 * k.toNat + 12)) (by show (2 * k.toNat + 0) + 2 ≤ (2 * k.toNat + 2); omega) (by show (12 * k.toNat + 0) + 12 ≤ (12 * k.toNat + 12); omega) ?_
        rw [hq.2] at hP hD
        rw [hq.1]
        dsimp only [Option.toList, List.cons_append, List.nil_append]
        refine lv_iload (pc := 18) hx hb dL_shines_18 (lv_at hl 4 rfl) ?_
        refine lv_iload (pc := 20) hx hb dL_shines_20 (lv_at hl 5 rfl) ?_
        refine lv_ishr (pc := 22) (x := iv fg) (y := iv k) hx hb dL_shines_22 ?_
        rw [iv_sshr ⟨by omega, by omega⟩ ⟨by omega, by omega⟩]
        refine lv_iconst (pc := 23) (v := iv 1) hx hb dL_shines_23 rfl ?_
        have hq_24 := ediv_bd (a := fg) (B := 2147483648) ⟨by omega, by omega⟩ k.toNat
        refine lv_iand (pc := 24) (x := iv (fg / 2 ^ k.toNat)) (y := iv 1) hx hb dL_shines_24 ?_
        rw [iv_and1 ⟨by omega, by omega⟩]
        have hm_24 := Int.emod_nonneg (fg / 2 ^ k.toNat) (show (2 : Int) ≠ 0 by omega)
        have hn_24 := Int.emod_lt_of_pos (fg / 2 ^ k.toNat) (show (0 : Int) < 2 by omega)
        refine lv_iconst (pc := 25) (v := iv 1) hx hb dL_shines_25 rfl ?_
        refine r_icmp_ne (pc := 26) (a := (fg / 2 ^ k.toNat) % 2) (b := 1) hx hb dL_shines_26 (tgt := 33) (by decide) ⟨by omega, by omega⟩ ⟨by omega, by omega⟩ (fun c_26 => ?_) (fun c_26 => ?_)
        · have c_26_ := c_26
          have hon : ON G la (fr + k) = false := (hs k (by omega) (by omega)).trans (decide_eq_false (by omega))
          refine lv_iconst (pc := 33) (v := iv 0) hx hb dL_shines_33 rfl ?_
          refine r_icmp_eq (pc := 34) (a := bz (ON G la (fr + k))) (b := 0) hx hb dL_shines_34 (tgt := 39) (by decide) (bz_rg _) (by decide) (fun c_34 => ?_) (fun c_34 => ?_)
          · have c_34_ := c_34
            refine lv_iinc (v := iv (k + 1)) (lv' := [(5, .int (iv (k + 1))), (0, .ref x), (1, .int (iv la)), (2, .int (iv fr)), (3, .int (iv many)), (4, .int (iv fg))]) (pc := 39) hx hb dL_shines_39 hl (k := 5) rfl (iv_add _ _) (by decide) rfl (fun ls hl => ?_)
            refine lv_goto (pc := 42) (tgt := 3) hx hb dL_shines_42 (by decide) ?_
            refine W.widen (k := 2 * (k + 1).toNat) (n := 12 * (k + 1).toNat) (by omega) (by omega) ?_
            exact ih_3 (k + 1) (by omega) (by omega) _ _ _ hP hD hS (lv_sub hl [1, 2, 3, 4, 5, 0] rfl)
          · have c_34_ := c_34
            exact absurd (congrArg bz hon) c_34
        · have c_26_ := c_26
          have hon : ON G la (fr + k) = true := (hs k (by omega) (by omega)).trans (decide_eq_true (by omega))
          refine lv_iconst (pc := 29) (v := iv 1) hx hb dL_shines_29 rfl ?_
          refine lv_goto (pc := 30) (tgt := 34) hx hb dL_shines_30 (by decide) ?_
          refine r_icmp_eq (pc := 34) (a := bz (ON G la (fr + k))) (b := 1) hx hb dL_shines_34 (tgt := 39) (by decide) (bz_rg _) (by decide) (fun c_34 => ?_) (fun c_34 => ?_)
          · have c_34_ := c_34
            refine lv_iinc (v := iv (k + 1)) (lv' := [(5, .int (iv (k + 1))), (0, .ref x), (1, .int (iv la)), (2, .int (iv fr)), (3, .int (iv many)), (4, .int (iv fg))]) (pc := 39) hx hb dL_shines_39 hl (k := 5) rfl (iv_add _ _) (by decide) rfl (fun ls hl => ?_)
            refine lv_goto (pc := 42) (tgt := 3) hx hb dL_shines_42 (by decide) ?_
            refine W.widen (k := 2 * (k + 1).toNat) (n := 12 * (k + 1).toNat) (by omega) (by omega) ?_
            exact ih_3 (k + 1) (by omega) (by omega) _ _ _ hP hD hS (lv_sub hl [1, 2, 3, 4, 5, 0] rfl)
          · have c_34_ := c_34
            exact absurd (congrArg bz hon) c_34
  refine W.widen (k := 2 * (0 : Int).toNat) (n := 12 * (0 : Int).toNat) (by decide) (by decide) ?_
  exact lp_3 _ 0 (by omega) (Nat.lt_succ_self _) _ _ _ hP hD hS (lv_sub hl [1, 2, 3, 4, 5, 0] rfl)

abbrev rm_A_pat2 : Room := { frames := 9, cells := 9, slots := 3124, locals := 450 }
set_option maxRecDepth 100000 in
set_option maxHeartbeats 4000000 in
theorem A_pat2 (l : Launch) (ε : EV) {x : Nat} {n : Nat → Int} {G : Nat → Nat → Int} {wd : va_W} (hst : l.stackTraces = false) (hH : HS ε x n G wd) (h0 : n 0 = 0) (h20 : n 1 < 20) (f d1 d2 : Int) (hf : f = d1 * 10 + d2 * 1) (hd1 : 1 ≤ d1 ∧ d1 ≤ 9) (hd2 : 1 ≤ d2 ∧ d2 ≤ 9) : CT l yL_pattern cL_pattern 5 (some .int) rm_A_pat2 ε [.ref x, .int (iv f)] (wd) (fun v w9 => v = some (.int (iv (n 1))) ∧ HS ε x (va_up (va_up (va_up (va_up n 0 1) 0 2) 0 0) 1 ((va_up (va_up n 0 1) 0 2) 1 + 1)) (GP (va_up (va_up n 0 1) 0 2) (va_up (va_up G 0 (va_up (G 0) (0 : Int).toNat d1)) 0 (va_up ((va_up G 0 (va_up (G 0) (0 : Int).toNat d1)) 0) (1 : Int).toNat d2))) w9) NX := by
  refine CT.intro (by decide +kernel) (Nat.le_of_ble_eq_true rfl) ?_
  intro p9 e9 s9 m9 a9 bl9 me9 c9 ls Q9 hC hE hP hD hl hQ
  have hx := hC.1
  have hb := hC.2.1
  have hK := hE.K
  have hS : WS ε s9.heap s9.heap [] := va_S.rf
  have hl : lv_has ls 5 [(0, .ref x), (1, .int (iv f))] := hl
  obtain ⟨H, hH⟩ : ∃ H, H = s9.heap := ⟨_, rfl⟩
  obtain ⟨locs, hlo⟩ : ∃ z : List Loc, z = [] := ⟨_, rfl⟩
  rw [← hH] at hP ⊢
  have hS : WS ε s9.heap H locs := by rw [hH, hlo]; exact hS
  rw [← hlo]
  clear hH hlo
  obtain ⟨fo, hob⟩ := hH.ob
  have hN := hH.inv.NB
  have hI := hH.inv
  refine lv_iconst (pc := 0) (v := iv 1) hx hb dL_pattern_0 rfl ?_
  refine lv_istore_n (lv' := [(2, .int (iv 1)), (0, .ref x), (1, .int (iv f))]) (pc := 1) hx hb dL_pattern_1 rfl hl (by decide) rfl (fun ls hl => ?_)
  refine lv_iconst (pc := 2) (v := iv 1) hx hb dL_pattern_2 rfl ?_
  refine lv_istore_n (lv' := [(3, .int (iv 1)), (2, .int (iv 1)), (0, .ref x), (1, .int (iv f))]) (pc := 3) hx hb dL_pattern_3 rfl hl (by decide) rfl (fun ls hl => ?_)
  refine lv_iload_n (pc := 4) hx hb dL_pattern_4 rfl (lv_at hl 3 rfl) ?_
  refine lv_iload_n (pc := 5) hx hb dL_pattern_5 rfl (lv_at hl 1 rfl) ?_
  refine r_idiv (pc := 6) (a := f) (b := 1) hx hb dL_pattern_6 ⟨⟨by omega, by omega⟩, by omega, by omega⟩ ?_
  refine lv_bipush (pc := 7) (v := iv 9) hx hb dL_pattern_7 (by decide) ?_
  refine r_icmp_le (pc := 9) (a := f / 1) (b := 9) hx hb dL_pattern_9 (tgt := 20) (by decide) ⟨by omega, by omega⟩ ⟨by omega, by omega⟩ (fun c_9 => ?_) (fun c_9 => ?_)
  · have c_9_ := c_9
    omega
  · have c_9_ := c_9
    refine lv_iload_n (pc := 12) hx hb dL_pattern_12 rfl (lv_at hl 1 rfl) ?_
    refine lv_bipush (pc := 13) (v := iv 10) hx hb dL_pattern_13 (by decide) ?_
    refine r_imul (pc := 15) (a := 1) (b := 10) hx hb dL_pattern_15 ?_
    rw [show (1 * 10 : Int) = 10 by decide]
    refine lv_istore_n (lv' := [(2, .int (iv 10)), (3, .int (iv 1)), (0, .ref x), (1, .int (iv f))]) (pc := 16) hx hb dL_pattern_16 rfl hl (by decide) rfl (fun ls hl => ?_)
    refine lv_goto (pc := 17) (tgt := 4) hx hb dL_pattern_17 (by decide) ?_
    refine lv_iload_n (pc := 4) hx hb dL_pattern_4 rfl (lv_at hl 3 rfl) ?_
    refine lv_iload_n (pc := 5) hx hb dL_pattern_5 rfl (lv_at hl 0 rfl) ?_
    refine r_idiv (pc := 6) (a := f) (b := 10) hx hb dL_pattern_6 ⟨⟨by omega, by omega⟩, by omega, by omega⟩ ?_
    refine lv_bipush (pc := 7) (v := iv 9) hx hb dL_pattern_7 (by decide) ?_
    refine r_icmp_le (pc := 9) (a := f / 10) (b := 9) hx hb dL_pattern_9 (tgt := 20) (by decide) ⟨by omega, by omega⟩ ⟨by omega, by omega⟩ (fun c_9 => ?_) (fun c_9 => ?_)
    · have c_9_ := c_9
      refine lv_iload_n (pc := 20) hx hb dL_pattern_20 rfl (lv_at hl 0 rfl) ?_
      refine lv_istore (lv' := [(4, .int (iv 10)), (2, .int (iv 10)), (3, .int (iv 1)), (0, .ref x), (1, .int (iv f))]) (pc := 21) hx hb dL_pattern_21 hl (by decide) rfl (fun ls hl => ?_)
      refine lv_iload (pc := 23) hx hb dL_pattern_23 (lv_at hl 0 rfl) ?_
      refine r_if_le (pc := 25) (a := 10) hx hb dL_pattern_25 (tgt := 59) (by decide) ⟨by omega, by omega⟩ (fun c_25 => ?_) (fun c_25 => ?_)
      · exact absurd c_25 (by decide)
      · have c_25_ := c_25
        refine lv_aload_n (pc := 28) hx hb dL_pattern_28 rfl (lv_at hl 3 rfl) ?_
        refine lv_iload_n (pc := 29) hx hb dL_pattern_29 rfl (lv_at hl 4 rfl) ?_
        refine lv_iload (pc := 30) hx hb dL_pattern_30 (lv_at hl 0 rfl) ?_
        refine r_idiv (pc := 32) (a := f) (b := 10) hx hb dL_pattern_32 ⟨⟨by omega, by omega⟩, by omega, by omega⟩ ?_
        refine lv_bipush (pc := 33) (v := iv 10) hx hb dL_pattern_33 (by decide) ?_
        refine r_irem (pc := 35) (a := f / 10) (b := 10) hx hb dL_pattern_35 ⟨⟨by omega, by omega⟩, by omega, by omega⟩ ?_
        have hm_35 := Int.emod_nonneg (f / 10) (show 10 ≠ 0 by omega)
        have hn_35 := Int.emod_lt_of_pos (f / 10) (show 0 < 10 by omega)
        rw [show (f / 10) % 10 = d1 by omega]
        refine c_callV (pc := 36) (y := yX4_phase) (As := [.int (iv d1)]) (rest := []) hC hE hP hD hS hl.1 (K_phaseL l ε hst hH 0 1 d1 h0 (by decide) (by decide) hd1) m_4_24 m_5_0 m_5_1 m_0_2 m_5_2 hob rfl hd_yX4_phase rfl ⟨⟨by decide, by decide⟩, (Nat.le_of_ble_eq_true rfl), (Nat.le_of_ble_eq_true rfl)⟩ (Nat.le_of_ble_eq_true rfl) rfl dL_pattern_36 kxN (fun v w_1 H locs hq hP hD hS => ?_)
        refine W.widen (k := 2) (n := 12) (Nat.le_of_ble_eq_true rfl) (Nat.le_of_ble_eq_true rfl) ?_
        have hH := hq.2
        obtain ⟨fo, hob⟩ := hH.ob
        rw [hq.1]
        dsimp only [Option.toList, List.cons_append, List.nil_append]
        refine lv_iload_n (pc := 39) hx hb dL_pattern_39 rfl (lv_at hl 2 rfl) ?_
        refine r_icmp_eq (pc := 40) (a := 1) (b := 1) hx hb dL_pattern_40 (tgt := 46) (by decide) ⟨by omega, by omega⟩ ⟨by omega, by omega⟩ (fun c_40 => ?_) (fun c_40 => ?_)
        · have c_40_ := c_40
          refine lv_iinc (v := iv (2)) (lv' := [(3, .int (iv 2)), (4, .int (iv 10)), (2, .int (iv 10)), (0, .ref x), (1, .int (iv f))]) (pc := 46) hx hb dL_pattern_46 hl (k := 2) rfl (iv_add _ _) (by decide) rfl (fun ls hl => ?_)
          refine lv_iload (pc := 49) hx hb dL_pattern_49 (lv_at hl 1 rfl) ?_
          refine lv_bipush (pc := 51) (v := iv 10) hx hb dL_pattern_51 (by decide) ?_
          refine r_idiv (pc := 53) (a := 10) (b := 10) hx hb dL_pattern_53 ⟨⟨by omega, by omega⟩, by omega, by omega⟩ ?_
          rw [show (10 / 10 : Int) = 1 by decide]
          refine lv_istore (lv' := [(4, .int (iv 1)), (3, .int (iv 2)), (2, .int (iv 10)), (0, .ref x), (1, .int (iv f))]) (pc := 54) hx hb dL_pattern_54 hl (by decide) rfl (fun ls hl => ?_)
          refine lv_goto (pc := 56) (tgt := 23) hx hb dL_pattern_56 (by decide) ?_
          refine lv_iload (pc := 23) hx hb dL_pattern_23 (lv_at hl 0 rfl) ?_
          refine r_if_le (pc := 25) (a := 1) hx hb dL_pattern_25 (tgt := 59) (by decide) ⟨by omega, by omega⟩ (fun c_25 => ?_) (fun c_25 => ?_)
          · exact absurd c_25 (by decide)
          · have c_25_ := c_25
            refine lv_aload_n (pc := 28) hx hb dL_pattern_28 rfl (lv_at hl 3 rfl) ?_
            refine lv_iload_n (pc := 29) hx hb dL_pattern_29 rfl (lv_at hl 4 rfl) ?_
            refine lv_iload (pc := 30) hx hb dL_pattern_30 (lv_at hl 0 rfl) ?_
            refine r_idiv (pc := 32) (a := f) (b := 1) hx hb dL_pattern_32 ⟨⟨by omega, by omega⟩, by omega, by omega⟩ ?_
            refine lv_bipush (pc := 33) (v := iv 10) hx hb dL_pattern_33 (by decide) ?_
            refine r_irem (pc := 35) (a := f / 1) (b := 10) hx hb dL_pattern_35 ⟨⟨by omega, by omega⟩, by omega, by omega⟩ ?_
            have hm_35 := Int.emod_nonneg (f / 1) (show 10 ≠ 0 by omega)
            have hn_35 := Int.emod_lt_of_pos (f / 1) (show 0 < 10 by omega)
            rw [show (f / 1) % 10 = d2 by omega]
            refine c_callV (pc := 36) (y := yX4_phase) (As := [.int (iv d2)]) (rest := []) hC hE hP hD hS hl.1 (K_phaseL l ε hst hH 1 2 d2 rfl (by decide) (by decide) hd2) m_4_24 m_5_0 m_5_1 m_0_2 m_5_2 hob rfl hd_yX4_phase rfl ⟨⟨by decide, by decide⟩, (Nat.le_of_ble_eq_true rfl), (Nat.le_of_ble_eq_true rfl)⟩ (Nat.le_of_ble_eq_true rfl) rfl dL_pattern_36 kxN (fun v w_2 H locs hq hP hD hS => ?_)
            refine W.widen (k := 4) (n := 24) (Nat.le_of_ble_eq_true rfl) (Nat.le_of_ble_eq_true rfl) ?_
            have hH := hq.2
            obtain ⟨fo, hob⟩ := hH.ob
            rw [hq.1]
            dsimp only [Option.toList, List.cons_append, List.nil_append]
            refine lv_iload_n (pc := 39) hx hb dL_pattern_39 rfl (lv_at hl 1 rfl) ?_
            refine r_icmp_eq (pc := 40) (a := 2) (b := 2) hx hb dL_pattern_40 (tgt := 46) (by decide) ⟨by omega, by omega⟩ ⟨by omega, by omega⟩ (fun c_40 => ?_) (fun c_40 => ?_)
            · have c_40_ := c_40
              refine lv_iinc (v := iv (3)) (lv' := [(3, .int (iv 3)), (4, .int (iv 1)), (2, .int (iv 10)), (0, .ref x), (1, .int (iv f))]) (pc := 46) hx hb dL_pattern_46 hl (k := 1) rfl (iv_add _ _) (by decide) rfl (fun ls hl => ?_)
              refine lv_iload (pc := 49) hx hb dL_pattern_49 (lv_at hl 1 rfl) ?_
              refine lv_bipush (pc := 51) (v := iv 10) hx hb dL_pattern_51 (by decide) ?_
              refine r_idiv (pc := 53) (a := 1) (b := 10) hx hb dL_pattern_53 ⟨⟨by omega, by omega⟩, by omega, by omega⟩ ?_
              rw [show (1 / 10 : Int) = 0 by decide]
              refine lv_istore (lv' := [(4, .int (iv 0)), (3, .int (iv 3)), (2, .int (iv 10)), (0, .ref x), (1, .int (iv f))]) (pc := 54) hx hb dL_pattern_54 hl (by decide) rfl (fun ls hl => ?_)
              refine lv_goto (pc := 56) (tgt := 23) hx hb dL_pattern_56 (by decide) ?_
              refine lv_iload (pc := 23) hx hb dL_pattern_23 (lv_at hl 0 rfl) ?_
              refine r_if_le (pc := 25) (a := 0) hx hb dL_pattern_25 (tgt := 59) (by decide) ⟨by omega, by omega⟩ (fun c_25 => ?_) (fun c_25 => ?_)
              · have c_25_ := c_25
                refine lv_aload_n (pc := 59) hx hb dL_pattern_59 rfl (lv_at hl 3 rfl) ?_
                refine c_callV (pc := 60) (y := yX4_pattern) (As := []) (rest := []) hC hE hP hD hS hl.1 (K_pattern l ε hst hH (Or.inl rfl) h20) m_5_10 m_5_11 m_5_12 m_0_2 m_5_13 hob rfl hd_yX4_pattern rfl ⟨⟨by decide, by decide⟩, (Nat.le_of_ble_eq_true rfl), (Nat.le_of_ble_eq_true rfl)⟩ (Nat.le_of_ble_eq_true rfl) rfl dL_pattern_60 kxN (fun v w_3 H locs hq hP hD hS => ?_)
                refine W.widen (k := 9) (n := 3124) (Nat.le_of_ble_eq_true rfl) (Nat.le_of_ble_eq_true rfl) ?_
                have hH := hq.2
                obtain ⟨fo, hob⟩ := hH.ob
                rw [hq.1]
                dsimp only [Option.toList, List.cons_append, List.nil_append]
                refine c_iret (pc := 63) hC hQ hP hD hS (by decide) (by decide) dL_pattern_63 ?_
                exact ⟨rfl, hH⟩
              · exact absurd c_25 (by decide)
            · exact absurd c_40 (by decide)
        · exact absurd c_40 (by decide)
    · have c_9_ := c_9
      omega

abbrev rm_A_pat4 : Room := { frames := 9, cells := 13, slots := 3148, locals := 450 }
set_option maxRecDepth 100000 in
set_option maxHeartbeats 4000000 in
theorem A_pat4 (l : Launch) (ε : EV) {x : Nat} {n : Nat → Int} {G : Nat → Nat → Int} {wd : va_W} (hst : l.stackTraces = false) (hH : HS ε x n G wd) (h0 : n 0 = 0) (h20 : n 1 < 20) (f d1 d2 d3 d4 : Int) (hf : f = d1 * 1000 + d2 * 100 + d3 * 10 + d4 * 1) (hd1 : 1 ≤ d1 ∧ d1 ≤ 9) (hd2 : 1 ≤ d2 ∧ d2 ≤ 9) (hd3 : 1 ≤ d3 ∧ d3 ≤ 9) (hd4 : 1 ≤ d4 ∧ d4 ≤ 9) : CT l yL_pattern cL_pattern 5 (some .int) rm_A_pat4 ε [.ref x, .int (iv f)] (wd) (fun v w9 => v = some (.int (iv (n 1))) ∧ HS ε x (va_up (va_up (va_up (va_up (va_up (va_up n 0 1) 0 2) 0 3) 0 4) 0 0) 1 ((va_up (va_up (va_up (va_up n 0 1) 0 2) 0 3) 0 4) 1 + 1)) (GP (va_up (va_up (va_up (va_up n 0 1) 0 2) 0 3) 0 4) (va_up (va_up (va_up (va_up G 0 (va_up (G 0) (0 : Int).toNat d1)) 0 (va_up ((va_up G 0 (va_up (G 0) (0 : Int).toNat d1)) 0) (1 : Int).toNat d2)) 0 (va_up ((va_up (va_up G 0 (va_up (G 0) (0 : Int).toNat d1)) 0 (va_up ((va_up G 0 (va_up (G 0) (0 : Int).toNat d1)) 0) (1 : Int).toNat d2)) 0) (2 : Int).toNat d3)) 0 (va_up ((va_up (va_up (va_up G 0 (va_up (G 0) (0 : Int).toNat d1)) 0 (va_up ((va_up G 0 (va_up (G 0) (0 : Int).toNat d1)) 0) (1 : Int).toNat d2)) 0 (va_up ((va_up (va_up G 0 (va_up (G 0) (0 : Int).toNat d1)) 0 (va_up ((va_up G 0 (va_up (G 0) (0 : Int).toNat d1)) 0) (1 : Int).toNat d2)) 0) (2 : Int).toNat d3)) 0) (3 : Int).toNat d4))) w9) NX := by
  refine CT.intro (by decide +kernel) (Nat.le_of_ble_eq_true rfl) ?_
  intro p9 e9 s9 m9 a9 bl9 me9 c9 ls Q9 hC hE hP hD hl hQ
  have hx := hC.1
  have hb := hC.2.1
  have hK := hE.K
  have hS : WS ε s9.heap s9.heap [] := va_S.rf
  have hl : lv_has ls 5 [(0, .ref x), (1, .int (iv f))] := hl
  obtain ⟨H, hH⟩ : ∃ H, H = s9.heap := ⟨_, rfl⟩
  obtain ⟨locs, hlo⟩ : ∃ z : List Loc, z = [] := ⟨_, rfl⟩
  rw [← hH] at hP ⊢
  have hS : WS ε s9.heap H locs := by rw [hH, hlo]; exact hS
  rw [← hlo]
  clear hH hlo
  obtain ⟨fo, hob⟩ := hH.ob
  have hN := hH.inv.NB
  have hI := hH.inv
  refine lv_iconst (pc := 0) (v := iv 1) hx hb dL_pattern_0 rfl ?_
  refine lv_istore_n (lv' := [(2, .int (iv 1)), (0, .ref x), (1, .int (iv f))]) (pc := 1) hx hb dL_pattern_1 rfl hl (by decide) rfl (fun ls hl => ?_)
  refine lv_iconst (pc := 2) (v := iv 1) hx hb dL_pattern_2 rfl ?_
  refine lv_istore_n (lv' := [(3, .int (iv 1)), (2, .int (iv 1)), (0, .ref x), (1, .int (iv f))]) (pc := 3) hx hb dL_pattern_3 rfl hl (by decide) rfl (fun ls hl => ?_)
  refine lv_iload_n (pc := 4) hx hb dL_pattern_4 rfl (lv_at hl 3 rfl) ?_
  refine lv_iload_n (pc := 5) hx hb dL_pattern_5 rfl (lv_at hl 1 rfl) ?_
  refine r_idiv (pc := 6) (a := f) (b := 1) hx hb dL_pattern_6 ⟨⟨by omega, by omega⟩, by omega, by omega⟩ ?_
  refine lv_bipush (pc := 7) (v := iv 9) hx hb dL_pattern_7 (by decide) ?_
  refine r_icmp_le (pc := 9) (a := f / 1) (b := 9) hx hb dL_pattern_9 (tgt := 20) (by decide) ⟨by omega, by omega⟩ ⟨by omega, by omega⟩ (fun c_9 => ?_) (fun c_9 => ?_)
  · have c_9_ := c_9
    omega
  · have c_9_ := c_9
    refine lv_iload_n (pc := 12) hx hb dL_pattern_12 rfl (lv_at hl 1 rfl) ?_
    refine lv_bipush (pc := 13) (v := iv 10) hx hb dL_pattern_13 (by decide) ?_
    refine r_imul (pc := 15) (a := 1) (b := 10) hx hb dL_pattern_15 ?_
    rw [show (1 * 10 : Int) = 10 by decide]
    refine lv_istore_n (lv' := [(2, .int (iv 10)), (3, .int (iv 1)), (0, .ref x), (1, .int (iv f))]) (pc := 16) hx hb dL_pattern_16 rfl hl (by decide) rfl (fun ls hl => ?_)
    refine lv_goto (pc := 17) (tgt := 4) hx hb dL_pattern_17 (by decide) ?_
    refine lv_iload_n (pc := 4) hx hb dL_pattern_4 rfl (lv_at hl 3 rfl) ?_
    refine lv_iload_n (pc := 5) hx hb dL_pattern_5 rfl (lv_at hl 0 rfl) ?_
    refine r_idiv (pc := 6) (a := f) (b := 10) hx hb dL_pattern_6 ⟨⟨by omega, by omega⟩, by omega, by omega⟩ ?_
    refine lv_bipush (pc := 7) (v := iv 9) hx hb dL_pattern_7 (by decide) ?_
    refine r_icmp_le (pc := 9) (a := f / 10) (b := 9) hx hb dL_pattern_9 (tgt := 20) (by decide) ⟨by omega, by omega⟩ ⟨by omega, by omega⟩ (fun c_9 => ?_) (fun c_9 => ?_)
    · have c_9_ := c_9
      omega
    · have c_9_ := c_9
      refine lv_iload_n (pc := 12) hx hb dL_pattern_12 rfl (lv_at hl 0 rfl) ?_
      refine lv_bipush (pc := 13) (v := iv 10) hx hb dL_pattern_13 (by decide) ?_
      refine r_imul (pc := 15) (a := 10) (b := 10) hx hb dL_pattern_15 ?_
      rw [show (10 * 10 : Int) = 100 by decide]
      refine lv_istore_n (lv' := [(2, .int (iv 100)), (3, .int (iv 1)), (0, .ref x), (1, .int (iv f))]) (pc := 16) hx hb dL_pattern_16 rfl hl (by decide) rfl (fun ls hl => ?_)
      refine lv_goto (pc := 17) (tgt := 4) hx hb dL_pattern_17 (by decide) ?_
      refine lv_iload_n (pc := 4) hx hb dL_pattern_4 rfl (lv_at hl 3 rfl) ?_
      refine lv_iload_n (pc := 5) hx hb dL_pattern_5 rfl (lv_at hl 0 rfl) ?_
      refine r_idiv (pc := 6) (a := f) (b := 100) hx hb dL_pattern_6 ⟨⟨by omega, by omega⟩, by omega, by omega⟩ ?_
      refine lv_bipush (pc := 7) (v := iv 9) hx hb dL_pattern_7 (by decide) ?_
      refine r_icmp_le (pc := 9) (a := f / 100) (b := 9) hx hb dL_pattern_9 (tgt := 20) (by decide) ⟨by omega, by omega⟩ ⟨by omega, by omega⟩ (fun c_9 => ?_) (fun c_9 => ?_)
      · have c_9_ := c_9
        omega
      · have c_9_ := c_9
        refine lv_iload_n (pc := 12) hx hb dL_pattern_12 rfl (lv_at hl 0 rfl) ?_
        refine lv_bipush (pc := 13) (v := iv 10) hx hb dL_pattern_13 (by decide) ?_
        refine r_imul (pc := 15) (a := 100) (b := 10) hx hb dL_pattern_15 ?_
        rw [show (100 * 10 : Int) = 1000 by decide]
        refine lv_istore_n (lv' := [(2, .int (iv 1000)), (3, .int (iv 1)), (0, .ref x), (1, .int (iv f))]) (pc := 16) hx hb dL_pattern_16 rfl hl (by decide) rfl (fun ls hl => ?_)
        refine lv_goto (pc := 17) (tgt := 4) hx hb dL_pattern_17 (by decide) ?_
        refine lv_iload_n (pc := 4) hx hb dL_pattern_4 rfl (lv_at hl 3 rfl) ?_
        refine lv_iload_n (pc := 5) hx hb dL_pattern_5 rfl (lv_at hl 0 rfl) ?_
        refine r_idiv (pc := 6) (a := f) (b := 1000) hx hb dL_pattern_6 ⟨⟨by omega, by omega⟩, by omega, by omega⟩ ?_
        refine lv_bipush (pc := 7) (v := iv 9) hx hb dL_pattern_7 (by decide) ?_
        refine r_icmp_le (pc := 9) (a := f / 1000) (b := 9) hx hb dL_pattern_9 (tgt := 20) (by decide) ⟨by omega, by omega⟩ ⟨by omega, by omega⟩ (fun c_9 => ?_) (fun c_9 => ?_)
        · have c_9_ := c_9
          refine lv_iload_n (pc := 20) hx hb dL_pattern_20 rfl (lv_at hl 0 rfl) ?_
          refine lv_istore (lv' := [(4, .int (iv 1000)), (2, .int (iv 1000)), (3, .int (iv 1)), (0, .ref x), (1, .int (iv f))]) (pc := 21) hx hb dL_pattern_21 hl (by decide) rfl (fun ls hl => ?_)
          refine lv_iload (pc := 23) hx hb dL_pattern_23 (lv_at hl 0 rfl) ?_
          refine r_if_le (pc := 25) (a := 1000) hx hb dL_pattern_25 (tgt := 59) (by decide) ⟨by omega, by omega⟩ (fun c_25 => ?_) (fun c_25 => ?_)
          · exact absurd c_25 (by decide)
          · have c_25_ := c_25
            refine lv_aload_n (pc := 28) hx hb dL_pattern_28 rfl (lv_at hl 3 rfl) ?_
            refine lv_iload_n (pc := 29) hx hb dL_pattern_29 rfl (lv_at hl 4 rfl) ?_
            refine lv_iload (pc := 30) hx hb dL_pattern_30 (lv_at hl 0 rfl) ?_
            refine r_idiv (pc := 32) (a := f) (b := 1000) hx hb dL_pattern_32 ⟨⟨by omega, by omega⟩, by omega, by omega⟩ ?_
            refine lv_bipush (pc := 33) (v := iv 10) hx hb dL_pattern_33 (by decide) ?_
            refine r_irem (pc := 35) (a := f / 1000) (b := 10) hx hb dL_pattern_35 ⟨⟨by omega, by omega⟩, by omega, by omega⟩ ?_
            have hm_35 := Int.emod_nonneg (f / 1000) (show 10 ≠ 0 by omega)
            have hn_35 := Int.emod_lt_of_pos (f / 1000) (show 0 < 10 by omega)
            rw [show (f / 1000) % 10 = d1 by omega]
            refine c_callV (pc := 36) (y := yX4_phase) (As := [.int (iv d1)]) (rest := []) hC hE hP hD hS hl.1 (K_phaseL l ε hst hH 0 1 d1 h0 (by decide) (by decide) hd1) m_4_24 m_5_0 m_5_1 m_0_2 m_5_2 hob rfl hd_yX4_phase rfl ⟨⟨by decide, by decide⟩, (Nat.le_of_ble_eq_true rfl), (Nat.le_of_ble_eq_true rfl)⟩ (Nat.le_of_ble_eq_true rfl) rfl dL_pattern_36 kxN (fun v w_1 H locs hq hP hD hS => ?_)
            refine W.widen (k := 2) (n := 12) (Nat.le_of_ble_eq_true rfl) (Nat.le_of_ble_eq_true rfl) ?_
            have hH := hq.2
            obtain ⟨fo, hob⟩ := hH.ob
            rw [hq.1]
            dsimp only [Option.toList, List.cons_append, List.nil_append]
            refine lv_iload_n (pc := 39) hx hb dL_pattern_39 rfl (lv_at hl 2 rfl) ?_
            refine r_icmp_eq (pc := 40) (a := 1) (b := 1) hx hb dL_pattern_40 (tgt := 46) (by decide) ⟨by omega, by omega⟩ ⟨by omega, by omega⟩ (fun c_40 => ?_) (fun c_40 => ?_)
            · have c_40_ := c_40
              refine lv_iinc (v := iv (2)) (lv' := [(3, .int (iv 2)), (4, .int (iv 1000)), (2, .int (iv 1000)), (0, .ref x), (1, .int (iv f))]) (pc := 46) hx hb dL_pattern_46 hl (k := 2) rfl (iv_add _ _) (by decide) rfl (fun ls hl => ?_)
              refine lv_iload (pc := 49) hx hb dL_pattern_49 (lv_at hl 1 rfl) ?_
              refine lv_bipush (pc := 51) (v := iv 10) hx hb dL_pattern_51 (by decide) ?_
              refine r_idiv (pc := 53) (a := 1000) (b := 10) hx hb dL_pattern_53 ⟨⟨by omega, by omega⟩, by omega, by omega⟩ ?_
              rw [show (1000 / 10 : Int) = 100 by decide]
              refine lv_istore (lv' := [(4, .int (iv 100)), (3, .int (iv 2)), (2, .int (iv 1000)), (0, .ref x), (1, .int (iv f))]) (pc := 54) hx hb dL_pattern_54 hl (by decide) rfl (fun ls hl => ?_)
              refine lv_goto (pc := 56) (tgt := 23) hx hb dL_pattern_56 (by decide) ?_
              refine lv_iload (pc := 23) hx hb dL_pattern_23 (lv_at hl 0 rfl) ?_
              refine r_if_le (pc := 25) (a := 100) hx hb dL_pattern_25 (tgt := 59) (by decide) ⟨by omega, by omega⟩ (fun c_25 => ?_) (fun c_25 => ?_)
              · exact absurd c_25 (by decide)
              · have c_25_ := c_25
                refine lv_aload_n (pc := 28) hx hb dL_pattern_28 rfl (lv_at hl 3 rfl) ?_
                refine lv_iload_n (pc := 29) hx hb dL_pattern_29 rfl (lv_at hl 4 rfl) ?_
                refine lv_iload (pc := 30) hx hb dL_pattern_30 (lv_at hl 0 rfl) ?_
                refine r_idiv (pc := 32) (a := f) (b := 100) hx hb dL_pattern_32 ⟨⟨by omega, by omega⟩, by omega, by omega⟩ ?_
                refine lv_bipush (pc := 33) (v := iv 10) hx hb dL_pattern_33 (by decide) ?_
                refine r_irem (pc := 35) (a := f / 100) (b := 10) hx hb dL_pattern_35 ⟨⟨by omega, by omega⟩, by omega, by omega⟩ ?_
                have hm_35 := Int.emod_nonneg (f / 100) (show 10 ≠ 0 by omega)
                have hn_35 := Int.emod_lt_of_pos (f / 100) (show 0 < 10 by omega)
                rw [show (f / 100) % 10 = d2 by omega]
                refine c_callV (pc := 36) (y := yX4_phase) (As := [.int (iv d2)]) (rest := []) hC hE hP hD hS hl.1 (K_phaseL l ε hst hH 1 2 d2 rfl (by decide) (by decide) hd2) m_4_24 m_5_0 m_5_1 m_0_2 m_5_2 hob rfl hd_yX4_phase rfl ⟨⟨by decide, by decide⟩, (Nat.le_of_ble_eq_true rfl), (Nat.le_of_ble_eq_true rfl)⟩ (Nat.le_of_ble_eq_true rfl) rfl dL_pattern_36 kxN (fun v w_2 H locs hq hP hD hS => ?_)
                refine W.widen (k := 4) (n := 24) (Nat.le_of_ble_eq_true rfl) (Nat.le_of_ble_eq_true rfl) ?_
                have hH := hq.2
                obtain ⟨fo, hob⟩ := hH.ob
                rw [hq.1]
                dsimp only [Option.toList, List.cons_append, List.nil_append]
                refine lv_iload_n (pc := 39) hx hb dL_pattern_39 rfl (lv_at hl 1 rfl) ?_
                refine r_icmp_eq (pc := 40) (a := 2) (b := 2) hx hb dL_pattern_40 (tgt := 46) (by decide) ⟨by omega, by omega⟩ ⟨by omega, by omega⟩ (fun c_40 => ?_) (fun c_40 => ?_)
                · have c_40_ := c_40
                  refine lv_iinc (v := iv (3)) (lv' := [(3, .int (iv 3)), (4, .int (iv 100)), (2, .int (iv 1000)), (0, .ref x), (1, .int (iv f))]) (pc := 46) hx hb dL_pattern_46 hl (k := 1) rfl (iv_add _ _) (by decide) rfl (fun ls hl => ?_)
                  refine lv_iload (pc := 49) hx hb dL_pattern_49 (lv_at hl 1 rfl) ?_
                  refine lv_bipush (pc := 51) (v := iv 10) hx hb dL_pattern_51 (by decide) ?_
                  refine r_idiv (pc := 53) (a := 100) (b := 10) hx hb dL_pattern_53 ⟨⟨by omega, by omega⟩, by omega, by omega⟩ ?_
                  rw [show (100 / 10 : Int) = 10 by decide]
                  refine lv_istore (lv' := [(4, .int (iv 10)), (3, .int (iv 3)), (2, .int (iv 1000)), (0, .ref x), (1, .int (iv f))]) (pc := 54) hx hb dL_pattern_54 hl (by decide) rfl (fun ls hl => ?_)
                  refine lv_goto (pc := 56) (tgt := 23) hx hb dL_pattern_56 (by decide) ?_
                  refine lv_iload (pc := 23) hx hb dL_pattern_23 (lv_at hl 0 rfl) ?_
                  refine r_if_le (pc := 25) (a := 10) hx hb dL_pattern_25 (tgt := 59) (by decide) ⟨by omega, by omega⟩ (fun c_25 => ?_) (fun c_25 => ?_)
                  · exact absurd c_25 (by decide)
                  · have c_25_ := c_25
                    refine lv_aload_n (pc := 28) hx hb dL_pattern_28 rfl (lv_at hl 3 rfl) ?_
                    refine lv_iload_n (pc := 29) hx hb dL_pattern_29 rfl (lv_at hl 4 rfl) ?_
                    refine lv_iload (pc := 30) hx hb dL_pattern_30 (lv_at hl 0 rfl) ?_
                    refine r_idiv (pc := 32) (a := f) (b := 10) hx hb dL_pattern_32 ⟨⟨by omega, by omega⟩, by omega, by omega⟩ ?_
                    refine lv_bipush (pc := 33) (v := iv 10) hx hb dL_pattern_33 (by decide) ?_
                    refine r_irem (pc := 35) (a := f / 10) (b := 10) hx hb dL_pattern_35 ⟨⟨by omega, by omega⟩, by omega, by omega⟩ ?_
                    have hm_35 := Int.emod_nonneg (f / 10) (show 10 ≠ 0 by omega)
                    have hn_35 := Int.emod_lt_of_pos (f / 10) (show 0 < 10 by omega)
                    rw [show (f / 10) % 10 = d3 by omega]
                    refine c_callV (pc := 36) (y := yX4_phase) (As := [.int (iv d3)]) (rest := []) hC hE hP hD hS hl.1 (K_phaseL l ε hst hH 2 3 d3 rfl (by decide) (by decide) hd3) m_4_24 m_5_0 m_5_1 m_0_2 m_5_2 hob rfl hd_yX4_phase rfl ⟨⟨by decide, by decide⟩, (Nat.le_of_ble_eq_true rfl), (Nat.le_of_ble_eq_true rfl)⟩ (Nat.le_of_ble_eq_true rfl) rfl dL_pattern_36 kxN (fun v w_3 H locs hq hP hD hS => ?_)
                    refine W.widen (k := 6) (n := 36) (Nat.le_of_ble_eq_true rfl) (Nat.le_of_ble_eq_true rfl) ?_
                    have hH := hq.2
                    obtain ⟨fo, hob⟩ := hH.ob
                    rw [hq.1]
                    dsimp only [Option.toList, List.cons_append, List.nil_append]
                    refine lv_iload_n (pc := 39) hx hb dL_pattern_39 rfl (lv_at hl 1 rfl) ?_
                    refine r_icmp_eq (pc := 40) (a := 3) (b := 3) hx hb dL_pattern_40 (tgt := 46) (by decide) ⟨by omega, by omega⟩ ⟨by omega, by omega⟩ (fun c_40 => ?_) (fun c_40 => ?_)
                    · have c_40_ := c_40
                      refine lv_iinc (v := iv (4)) (lv' := [(3, .int (iv 4)), (4, .int (iv 10)), (2, .int (iv 1000)), (0, .ref x), (1, .int (iv f))]) (pc := 46) hx hb dL_pattern_46 hl (k := 1) rfl (iv_add _ _) (by decide) rfl (fun ls hl => ?_)
                      refine lv_iload (pc := 49) hx hb dL_pattern_49 (lv_at hl 1 rfl) ?_
                      refine lv_bipush (pc := 51) (v := iv 10) hx hb dL_pattern_51 (by decide) ?_
                      refine r_idiv (pc := 53) (a := 10) (b := 10) hx hb dL_pattern_53 ⟨⟨by omega, by omega⟩, by omega, by omega⟩ ?_
                      rw [show (10 / 10 : Int) = 1 by decide]
                      refine lv_istore (lv' := [(4, .int (iv 1)), (3, .int (iv 4)), (2, .int (iv 1000)), (0, .ref x), (1, .int (iv f))]) (pc := 54) hx hb dL_pattern_54 hl (by decide) rfl (fun ls hl => ?_)
                      refine lv_goto (pc := 56) (tgt := 23) hx hb dL_pattern_56 (by decide) ?_
                      refine lv_iload (pc := 23) hx hb dL_pattern_23 (lv_at hl 0 rfl) ?_
                      refine r_if_le (pc := 25) (a := 1) hx hb dL_pattern_25 (tgt := 59) (by decide) ⟨by omega, by omega⟩ (fun c_25 => ?_) (fun c_25 => ?_)
                      · exact absurd c_25 (by decide)
                      · have c_25_ := c_25
                        refine lv_aload_n (pc := 28) hx hb dL_pattern_28 rfl (lv_at hl 3 rfl) ?_
                        refine lv_iload_n (pc := 29) hx hb dL_pattern_29 rfl (lv_at hl 4 rfl) ?_
                        refine lv_iload (pc := 30) hx hb dL_pattern_30 (lv_at hl 0 rfl) ?_
                        refine r_idiv (pc := 32) (a := f) (b := 1) hx hb dL_pattern_32 ⟨⟨by omega, by omega⟩, by omega, by omega⟩ ?_
                        refine lv_bipush (pc := 33) (v := iv 10) hx hb dL_pattern_33 (by decide) ?_
                        refine r_irem (pc := 35) (a := f / 1) (b := 10) hx hb dL_pattern_35 ⟨⟨by omega, by omega⟩, by omega, by omega⟩ ?_
                        have hm_35 := Int.emod_nonneg (f / 1) (show 10 ≠ 0 by omega)
                        have hn_35 := Int.emod_lt_of_pos (f / 1) (show 0 < 10 by omega)
                        rw [show (f / 1) % 10 = d4 by omega]
                        refine c_callV (pc := 36) (y := yX4_phase) (As := [.int (iv d4)]) (rest := []) hC hE hP hD hS hl.1 (K_phaseL l ε hst hH 3 4 d4 rfl (by decide) (by decide) hd4) m_4_24 m_5_0 m_5_1 m_0_2 m_5_2 hob rfl hd_yX4_phase rfl ⟨⟨by decide, by decide⟩, (Nat.le_of_ble_eq_true rfl), (Nat.le_of_ble_eq_true rfl)⟩ (Nat.le_of_ble_eq_true rfl) rfl dL_pattern_36 kxN (fun v w_4 H locs hq hP hD hS => ?_)
                        refine W.widen (k := 8) (n := 48) (Nat.le_of_ble_eq_true rfl) (Nat.le_of_ble_eq_true rfl) ?_
                        have hH := hq.2
                        obtain ⟨fo, hob⟩ := hH.ob
                        rw [hq.1]
                        dsimp only [Option.toList, List.cons_append, List.nil_append]
                        refine lv_iload_n (pc := 39) hx hb dL_pattern_39 rfl (lv_at hl 1 rfl) ?_
                        refine r_icmp_eq (pc := 40) (a := 4) (b := 4) hx hb dL_pattern_40 (tgt := 46) (by decide) ⟨by omega, by omega⟩ ⟨by omega, by omega⟩ (fun c_40 => ?_) (fun c_40 => ?_)
                        · have c_40_ := c_40
                          refine lv_iinc (v := iv (5)) (lv' := [(3, .int (iv 5)), (4, .int (iv 1)), (2, .int (iv 1000)), (0, .ref x), (1, .int (iv f))]) (pc := 46) hx hb dL_pattern_46 hl (k := 1) rfl (iv_add _ _) (by decide) rfl (fun ls hl => ?_)
                          refine lv_iload (pc := 49) hx hb dL_pattern_49 (lv_at hl 1 rfl) ?_
                          refine lv_bipush (pc := 51) (v := iv 10) hx hb dL_pattern_51 (by decide) ?_
                          refine r_idiv (pc := 53) (a := 1) (b := 10) hx hb dL_pattern_53 ⟨⟨by omega, by omega⟩, by omega, by omega⟩ ?_
                          rw [show (1 / 10 : Int) = 0 by decide]
                          refine lv_istore (lv' := [(4, .int (iv 0)), (3, .int (iv 5)), (2, .int (iv 1000)), (0, .ref x), (1, .int (iv f))]) (pc := 54) hx hb dL_pattern_54 hl (by decide) rfl (fun ls hl => ?_)
                          refine lv_goto (pc := 56) (tgt := 23) hx hb dL_pattern_56 (by decide) ?_
                          refine lv_iload (pc := 23) hx hb dL_pattern_23 (lv_at hl 0 rfl) ?_
                          refine r_if_le (pc := 25) (a := 0) hx hb dL_pattern_25 (tgt := 59) (by decide) ⟨by omega, by omega⟩ (fun c_25 => ?_) (fun c_25 => ?_)
                          · have c_25_ := c_25
                            refine lv_aload_n (pc := 59) hx hb dL_pattern_59 rfl (lv_at hl 3 rfl) ?_
                            refine c_callV (pc := 60) (y := yX4_pattern) (As := []) (rest := []) hC hE hP hD hS hl.1 (K_pattern l ε hst hH (Or.inr (Or.inl rfl)) h20) m_5_10 m_5_11 m_5_12 m_0_2 m_5_13 hob rfl hd_yX4_pattern rfl ⟨⟨by decide, by decide⟩, (Nat.le_of_ble_eq_true rfl), (Nat.le_of_ble_eq_true rfl)⟩ (Nat.le_of_ble_eq_true rfl) rfl dL_pattern_60 kxN (fun v w_5 H locs hq hP hD hS => ?_)
                            refine W.widen (k := 13) (n := 3148) (Nat.le_of_ble_eq_true rfl) (Nat.le_of_ble_eq_true rfl) ?_
                            have hH := hq.2
                            obtain ⟨fo, hob⟩ := hH.ob
                            rw [hq.1]
                            dsimp only [Option.toList, List.cons_append, List.nil_append]
                            refine c_iret (pc := 63) hC hQ hP hD hS (by decide) (by decide) dL_pattern_63 ?_
                            exact ⟨rfl, hH⟩
                          · exact absurd c_25 (by decide)
                        · exact absurd c_40 (by decide)
                    · exact absurd c_40 (by decide)
                · exact absurd c_40 (by decide)
            · exact absurd c_40 (by decide)
        · have c_9_ := c_9
          omega

abbrev rm_A_pat6 : Room := { frames := 9, cells := 17, slots := 3172, locals := 450 }
set_option maxRecDepth 100000 in
set_option maxHeartbeats 4000000 in
theorem A_pat6 (l : Launch) (ε : EV) {x : Nat} {n : Nat → Int} {G : Nat → Nat → Int} {wd : va_W} (hst : l.stackTraces = false) (hH : HS ε x n G wd) (h0 : n 0 = 0) (h20 : n 1 < 20) (f d1 d2 d3 d4 d5 d6 : Int) (hf : f = d1 * 100000 + d2 * 10000 + d3 * 1000 + d4 * 100 + d5 * 10 + d6 * 1) (hd1 : 1 ≤ d1 ∧ d1 ≤ 9) (hd2 : 1 ≤ d2 ∧ d2 ≤ 9) (hd3 : 1 ≤ d3 ∧ d3 ≤ 9) (hd4 : 1 ≤ d4 ∧ d4 ≤ 9) (hd5 : 1 ≤ d5 ∧ d5 ≤ 9) (hd6 : 1 ≤ d6 ∧ d6 ≤ 9) : CT l yL_pattern cL_pattern 5 (some .int) rm_A_pat6 ε [.ref x, .int (iv f)] (wd) (fun v w9 => v = some (.int (iv (n 1))) ∧ HS ε x (va_up (va_up (va_up (va_up (va_up (va_up (va_up (va_up n 0 1) 0 2) 0 3) 0 4) 0 5) 0 6) 0 0) 1 ((va_up (va_up (va_up (va_up (va_up (va_up n 0 1) 0 2) 0 3) 0 4) 0 5) 0 6) 1 + 1)) (GP (va_up (va_up (va_up (va_up (va_up (va_up n 0 1) 0 2) 0 3) 0 4) 0 5) 0 6) (va_up (va_up (va_up (va_up (va_up (va_up G 0 (va_up (G 0) (0 : Int).toNat d1)) 0 (va_up ((va_up G 0 (va_up (G 0) (0 : Int).toNat d1)) 0) (1 : Int).toNat d2)) 0 (va_up ((va_up (va_up G 0 (va_up (G 0) (0 : Int).toNat d1)) 0 (va_up ((va_up G 0 (va_up (G 0) (0 : Int).toNat d1)) 0) (1 : Int).toNat d2)) 0) (2 : Int).toNat d3)) 0 (va_up ((va_up (va_up (va_up G 0 (va_up (G 0) (0 : Int).toNat d1)) 0 (va_up ((va_up G 0 (va_up (G 0) (0 : Int).toNat d1)) 0) (1 : Int).toNat d2)) 0 (va_up ((va_up (va_up G 0 (va_up (G 0) (0 : Int).toNat d1)) 0 (va_up ((va_up G 0 (va_up (G 0) (0 : Int).toNat d1)) 0) (1 : Int).toNat d2)) 0) (2 : Int).toNat d3)) 0) (3 : Int).toNat d4)) 0 (va_up ((va_up (va_up (va_up (va_up G 0 (va_up (G 0) (0 : Int).toNat d1)) 0 (va_up ((va_up G 0 (va_up (G 0) (0 : Int).toNat d1)) 0) (1 : Int).toNat d2)) 0 (va_up ((va_up (va_up G 0 (va_up (G 0) (0 : Int).toNat d1)) 0 (va_up ((va_up G 0 (va_up (G 0) (0 : Int).toNat d1)) 0) (1 : Int).toNat d2)) 0) (2 : Int).toNat d3)) 0 (va_up ((va_up (va_up (va_up G 0 (va_up (G 0) (0 : Int).toNat d1)) 0 (va_up ((va_up G 0 (va_up (G 0) (0 : Int).toNat d1)) 0) (1 : Int).toNat d2)) 0 (va_up ((va_up (va_up G 0 (va_up (G 0) (0 : Int).toNat d1)) 0 (va_up ((va_up G 0 (va_up (G 0) (0 : Int).toNat d1)) 0) (1 : Int).toNat d2)) 0) (2 : Int).toNat d3)) 0) (3 : Int).toNat d4)) 0) (4 : Int).toNat d5)) 0 (va_up ((va_up (va_up (va_up (va_up (va_up G 0 (va_up (G 0) (0 : Int).toNat d1)) 0 (va_up ((va_up G 0 (va_up (G 0) (0 : Int).toNat d1)) 0) (1 : Int).toNat d2)) 0 (va_up ((va_up (va_up G 0 (va_up (G 0) (0 : Int).toNat d1)) 0 (va_up ((va_up G 0 (va_up (G 0) (0 : Int).toNat d1)) 0) (1 : Int).toNat d2)) 0) (2 : Int).toNat d3)) 0 (va_up ((va_up (va_up (va_up G 0 (va_up (G 0) (0 : Int).toNat d1)) 0 (va_up ((va_up G 0 (va_up (G 0) (0 : Int).toNat d1)) 0) (1 : Int).toNat d2)) 0 (va_up ((va_up (va_up G 0 (va_up (G 0) (0 : Int).toNat d1)) 0 (va_up ((va_up G 0 (va_up (G 0) (0 : Int).toNat d1)) 0) (1 : Int).toNat d2)) 0) (2 : Int).toNat d3)) 0) (3 : Int).toNat d4)) 0 (va_up ((va_up (va_up (va_up (va_up G 0 (va_up (G 0) (0 : Int).toNat d1)) 0 (va_up ((va_up G 0 (va_up (G 0) (0 : Int).toNat d1)) 0) (1 : Int).toNat d2)) 0 (va_up ((va_up (va_up G 0 (va_up (G 0) (0 : Int).toNat d1)) 0 (va_up ((va_up G 0 (va_up (G 0) (0 : Int).toNat d1)) 0) (1 : Int).toNat d2)) 0) (2 : Int).toNat d3)) 0 (va_up ((va_up (va_up (va_up G 0 (va_up (G 0) (0 : Int).toNat d1)) 0 (va_up ((va_up G 0 (va_up (G 0) (0 : Int).toNat d1)) 0) (1 : Int).toNat d2)) 0 (va_up ((va_up (va_up G 0 (va_up (G 0) (0 : Int).toNat d1)) 0 (va_up ((va_up G 0 (va_up (G 0) (0 : Int).toNat d1)) 0) (1 : Int).toNat d2)) 0) (2 : Int).toNat d3)) 0) (3 : Int).toNat d4)) 0) (4 : Int).toNat d5)) 0) (5 : Int).toNat d6))) w9) NX := by
  refine CT.intro (by decide +kernel) (Nat.le_of_ble_eq_true rfl) ?_
  intro p9 e9 s9 m9 a9 bl9 me9 c9 ls Q9 hC hE hP hD hl hQ
  have hx := hC.1
  have hb := hC.2.1
  have hK := hE.K
  have hS : WS ε s9.heap s9.heap [] := va_S.rf
  have hl : lv_has ls 5 [(0, .ref x), (1, .int (iv f))] := hl
  obtain ⟨H, hH⟩ : ∃ H, H = s9.heap := ⟨_, rfl⟩
  obtain ⟨locs, hlo⟩ : ∃ z : List Loc, z = [] := ⟨_, rfl⟩
  rw [← hH] at hP ⊢
  have hS : WS ε s9.heap H locs := by rw [hH, hlo]; exact hS
  rw [← hlo]
  clear hH hlo
  obtain ⟨fo, hob⟩ := hH.ob
  have hN := hH.inv.NB
  have hI := hH.inv
  refine lv_iconst (pc := 0) (v := iv 1) hx hb dL_pattern_0 rfl ?_
  refine lv_istore_n (lv' := [(2, .int (iv 1)), (0, .ref x), (1, .int (iv f))]) (pc := 1) hx hb dL_pattern_1 rfl hl (by decide) rfl (fun ls hl => ?_)
  refine lv_iconst (pc := 2) (v := iv 1) hx hb dL_pattern_2 rfl ?_
  refine lv_istore_n (lv' := [(3, .int (iv 1)), (2, .int (iv 1)), (0, .ref x), (1, .int (iv f))]) (pc := 3) hx hb dL_pattern_3 rfl hl (by decide) rfl (fun ls hl => ?_)
  refine lv_iload_n (pc := 4) hx hb dL_pattern_4 rfl (lv_at hl 3 rfl) ?_
  refine lv_iload_n (pc := 5) hx hb dL_pattern_5 rfl (lv_at hl 1 rfl) ?_
  refine r_idiv (pc := 6) (a := f) (b := 1) hx hb dL_pattern_6 ⟨⟨by omega, by omega⟩, by omega, by omega⟩ ?_
  refine lv_bipush (pc := 7) (v := iv 9) hx hb dL_pattern_7 (by decide) ?_
  refine r_icmp_le (pc := 9) (a := f / 1) (b := 9) hx hb dL_pattern_9 (tgt := 20) (by decide) ⟨by omega, by omega⟩ ⟨by omega, by omega⟩ (fun c_9 => ?_) (fun c_9 => ?_)
  · have c_9_ := c_9
    omega
  · have c_9_ := c_9
    refine lv_iload_n (pc := 12) hx hb dL_pattern_12 rfl (lv_at hl 1 rfl) ?_
    refine lv_bipush (pc := 13) (v := iv 10) hx hb dL_pattern_13 (by decide) ?_
    refine r_imul (pc := 15) (a := 1) (b := 10) hx hb dL_pattern_15 ?_
    rw [show (1 * 10 : Int) = 10 by decide]
    refine lv_istore_n (lv' := [(2, .int (iv 10)), (3, .int (iv 1)), (0, .ref x), (1, .int (iv f))]) (pc := 16) hx hb dL_pattern_16 rfl hl (by decide) rfl (fun ls hl => ?_)
    refine lv_goto (pc := 17) (tgt := 4) hx hb dL_pattern_17 (by decide) ?_
    refine lv_iload_n (pc := 4) hx hb dL_pattern_4 rfl (lv_at hl 3 rfl) ?_
    refine lv_iload_n (pc := 5) hx hb dL_pattern_5 rfl (lv_at hl 0 rfl) ?_
    refine r_idiv (pc := 6) (a := f) (b := 10) hx hb dL_pattern_6 ⟨⟨by omega, by omega⟩, by omega, by omega⟩ ?_
    refine lv_bipush (pc := 7) (v := iv 9) hx hb dL_pattern_7 (by decide) ?_
    refine r_icmp_le (pc := 9) (a := f / 10) (b := 9) hx hb dL_pattern_9 (tgt := 20) (by decide) ⟨by omega, by omega⟩ ⟨by omega, by omega⟩ (fun c_9 => ?_) (fun c_9 => ?_)
    · have c_9_ := c_9
      omega
    · have c_9_ := c_9
      refine lv_iload_n (pc := 12) hx hb dL_pattern_12 rfl (lv_at hl 0 rfl) ?_
      refine lv_bipush (pc := 13) (v := iv 10) hx hb dL_pattern_13 (by decide) ?_
      refine r_imul (pc := 15) (a := 10) (b := 10) hx hb dL_pattern_15 ?_
      rw [show (10 * 10 : Int) = 100 by decide]
      refine lv_istore_n (lv' := [(2, .int (iv 100)), (3, .int (iv 1)), (0, .ref x), (1, .int (iv f))]) (pc := 16) hx hb dL_pattern_16 rfl hl (by decide) rfl (fun ls hl => ?_)
      refine lv_goto (pc := 17) (tgt := 4) hx hb dL_pattern_17 (by decide) ?_
      refine lv_iload_n (pc := 4) hx hb dL_pattern_4 rfl (lv_at hl 3 rfl) ?_
      refine lv_iload_n (pc := 5) hx hb dL_pattern_5 rfl (lv_at hl 0 rfl) ?_
      refine r_idiv (pc := 6) (a := f) (b := 100) hx hb dL_pattern_6 ⟨⟨by omega, by omega⟩, by omega, by omega⟩ ?_
      refine lv_bipush (pc := 7) (v := iv 9) hx hb dL_pattern_7 (by decide) ?_
      refine r_icmp_le (pc := 9) (a := f / 100) (b := 9) hx hb dL_pattern_9 (tgt := 20) (by decide) ⟨by omega, by omega⟩ ⟨by omega, by omega⟩ (fun c_9 => ?_) (fun c_9 => ?_)
      · have c_9_ := c_9
        omega
      · have c_9_ := c_9
        refine lv_iload_n (pc := 12) hx hb dL_pattern_12 rfl (lv_at hl 0 rfl) ?_
        refine lv_bipush (pc := 13) (v := iv 10) hx hb dL_pattern_13 (by decide) ?_
        refine r_imul (pc := 15) (a := 100) (b := 10) hx hb dL_pattern_15 ?_
        rw [show (100 * 10 : Int) = 1000 by decide]
        refine lv_istore_n (lv' := [(2, .int (iv 1000)), (3, .int (iv 1)), (0, .ref x), (1, .int (iv f))]) (pc := 16) hx hb dL_pattern_16 rfl hl (by decide) rfl (fun ls hl => ?_)
        refine lv_goto (pc := 17) (tgt := 4) hx hb dL_pattern_17 (by decide) ?_
        refine lv_iload_n (pc := 4) hx hb dL_pattern_4 rfl (lv_at hl 3 rfl) ?_
        refine lv_iload_n (pc := 5) hx hb dL_pattern_5 rfl (lv_at hl 0 rfl) ?_
        refine r_idiv (pc := 6) (a := f) (b := 1000) hx hb dL_pattern_6 ⟨⟨by omega, by omega⟩, by omega, by omega⟩ ?_
        refine lv_bipush (pc := 7) (v := iv 9) hx hb dL_pattern_7 (by decide) ?_
        refine r_icmp_le (pc := 9) (a := f / 1000) (b := 9) hx hb dL_pattern_9 (tgt := 20) (by decide) ⟨by omega, by omega⟩ ⟨by omega, by omega⟩ (fun c_9 => ?_) (fun c_9 => ?_)
        · have c_9_ := c_9
          omega
        · have c_9_ := c_9
          refine lv_iload_n (pc := 12) hx hb dL_pattern_12 rfl (lv_at hl 0 rfl) ?_
          refine lv_bipush (pc := 13) (v := iv 10) hx hb dL_pattern_13 (by decide) ?_
          refine r_imul (pc := 15) (a := 1000) (b := 10) hx hb dL_pattern_15 ?_
          rw [show (1000 * 10 : Int) = 10000 by decide]
          refine lv_istore_n (lv' := [(2, .int (iv 10000)), (3, .int (iv 1)), (0, .ref x), (1, .int (iv f))]) (pc := 16) hx hb dL_pattern_16 rfl hl (by decide) rfl (fun ls hl => ?_)
          refine lv_goto (pc := 17) (tgt := 4) hx hb dL_pattern_17 (by decide) ?_
          refine lv_iload_n (pc := 4) hx hb dL_pattern_4 rfl (lv_at hl 3 rfl) ?_
          refine lv_iload_n (pc := 5) hx hb dL_pattern_5 rfl (lv_at hl 0 rfl) ?_
          refine r_idiv (pc := 6) (a := f) (b := 10000) hx hb dL_pattern_6 ⟨⟨by omega, by omega⟩, by omega, by omega⟩ ?_
          refine lv_bipush (pc := 7) (v := iv 9) hx hb dL_pattern_7 (by decide) ?_
          refine r_icmp_le (pc := 9) (a := f / 10000) (b := 9) hx hb dL_pattern_9 (tgt := 20) (by decide) ⟨by omega, by omega⟩ ⟨by omega, by omega⟩ (fun c_9 => ?_) (fun c_9 => ?_)
          · have c_9_ := c_9
            omega
          · have c_9_ := c_9
            refine lv_iload_n (pc := 12) hx hb dL_pattern_12 rfl (lv_at hl 0 rfl) ?_
            refine lv_bipush (pc := 13) (v := iv 10) hx hb dL_pattern_13 (by decide) ?_
            refine r_imul (pc := 15) (a := 10000) (b := 10) hx hb dL_pattern_15 ?_
            rw [show (10000 * 10 : Int) = 100000 by decide]
            refine lv_istore_n (lv' := [(2, .int (iv 100000)), (3, .int (iv 1)), (0, .ref x), (1, .int (iv f))]) (pc := 16) hx hb dL_pattern_16 rfl hl (by decide) rfl (fun ls hl => ?_)
            refine lv_goto (pc := 17) (tgt := 4) hx hb dL_pattern_17 (by decide) ?_
            refine lv_iload_n (pc := 4) hx hb dL_pattern_4 rfl (lv_at hl 3 rfl) ?_
            refine lv_iload_n (pc := 5) hx hb dL_pattern_5 rfl (lv_at hl 0 rfl) ?_
            refine r_idiv (pc := 6) (a := f) (b := 100000) hx hb dL_pattern_6 ⟨⟨by omega, by omega⟩, by omega, by omega⟩ ?_
            refine lv_bipush (pc := 7) (v := iv 9) hx hb dL_pattern_7 (by decide) ?_
            refine r_icmp_le (pc := 9) (a := f / 100000) (b := 9) hx hb dL_pattern_9 (tgt := 20) (by decide) ⟨by omega, by omega⟩ ⟨by omega, by omega⟩ (fun c_9 => ?_) (fun c_9 => ?_)
            · have c_9_ := c_9
              refine lv_iload_n (pc := 20) hx hb dL_pattern_20 rfl (lv_at hl 0 rfl) ?_
              refine lv_istore (lv' := [(4, .int (iv 100000)), (2, .int (iv 100000)), (3, .int (iv 1)), (0, .ref x), (1, .int (iv f))]) (pc := 21) hx hb dL_pattern_21 hl (by decide) rfl (fun ls hl => ?_)
              refine lv_iload (pc := 23) hx hb dL_pattern_23 (lv_at hl 0 rfl) ?_
              refine r_if_le (pc := 25) (a := 100000) hx hb dL_pattern_25 (tgt := 59) (by decide) ⟨by omega, by omega⟩ (fun c_25 => ?_) (fun c_25 => ?_)
              · exact absurd c_25 (by decide)
              · have c_25_ := c_25
                refine lv_aload_n (pc := 28) hx hb dL_pattern_28 rfl (lv_at hl 3 rfl) ?_
                refine lv_iload_n (pc := 29) hx hb dL_pattern_29 rfl (lv_at hl 4 rfl) ?_
                refine lv_iload (pc := 30) hx hb dL_pattern_30 (lv_at hl 0 rfl) ?_
                refine r_idiv (pc := 32) (a := f) (b := 100000) hx hb dL_pattern_32 ⟨⟨by omega, by omega⟩, by omega, by omega⟩ ?_
                refine lv_bipush (pc := 33) (v := iv 10) hx hb dL_pattern_33 (by decide) ?_
                refine r_irem (pc := 35) (a := f / 100000) (b := 10) hx hb dL_pattern_35 ⟨⟨by omega, by omega⟩, by omega, by omega⟩ ?_
                have hm_35 := Int.emod_nonneg (f / 100000) (show 10 ≠ 0 by omega)
                have hn_35 := Int.emod_lt_of_pos (f / 100000) (show 0 < 10 by omega)
                rw [show (f / 100000) % 10 = d1 by omega]
                refine c_callV (pc := 36) (y := yX4_phase) (As := [.int (iv d1)]) (rest := []) hC hE hP hD hS hl.1 (K_phaseL l ε hst hH 0 1 d1 h0 (by decide) (by decide) hd1) m_4_24 m_5_0 m_5_1 m_0_2 m_5_2 hob rfl hd_yX4_phase rfl ⟨⟨by decide, by decide⟩, (Nat.le_of_ble_eq_true rfl), (Nat.le_of_ble_eq_true rfl)⟩ (Nat.le_of_ble_eq_true rfl) rfl dL_pattern_36 kxN (fun v w_1 H locs hq hP hD hS => ?_)
                refine W.widen (k := 2) (n := 12) (Nat.le_of_ble_eq_true rfl) (Nat.le_of_ble_eq_true rfl) ?_
                have hH := hq.2
                obtain ⟨fo, hob⟩ := hH.ob
                rw [hq.1]
                dsimp only [Option.toList, List.cons_append, List.nil_append]
                refine lv_iload_n (pc := 39) hx hb dL_pattern_39 rfl (lv_at hl 2 rfl) ?_
                refine r_icmp_eq (pc := 40) (a := 1) (b := 1) hx hb dL_pattern_40 (tgt := 46) (by decide) ⟨by omega, by omega⟩ ⟨by omega, by omega⟩ (fun c_40 => ?_) (fun c_40 => ?_)
                · have c_40_ := c_40
                  refine lv_iinc (v := iv (2)) (lv' := [(3, .int (iv 2)), (4, .int (iv 100000)), (2, .int (iv 100000)), (0, .ref x), (1, .int (iv f))]) (pc := 46) hx hb dL_pattern_46 hl (k := 2) rfl (iv_add _ _) (by decide) rfl (fun ls hl => ?_)
                  refine lv_iload (pc := 49) hx hb dL_pattern_49 (lv_at hl 1 rfl) ?_
                  refine lv_bipush (pc := 51) (v := iv 10) hx hb dL_pattern_51 (by decide) ?_
                  refine r_idiv (pc := 53) (a := 100000) (b := 10) hx hb dL_pattern_53 ⟨⟨by omega, by omega⟩, by omega, by omega⟩ ?_
                  rw [show (100000 / 10 : Int) = 10000 by decide]
                  refine lv_istore (lv' := [(4, .int (iv 10000)), (3, .int (iv 2)), (2, .int (iv 100000)), (0, .ref x), (1, .int (iv f))]) (pc := 54) hx hb dL_pattern_54 hl (by decide) rfl (fun ls hl => ?_)
                  refine lv_goto (pc := 56) (tgt := 23) hx hb dL_pattern_56 (by decide) ?_
                  refine lv_iload (pc := 23) hx hb dL_pattern_23 (lv_at hl 0 rfl) ?_
                  refine r_if_le (pc := 25) (a := 10000) hx hb dL_pattern_25 (tgt := 59) (by decide) ⟨by omega, by omega⟩ (fun c_25 => ?_) (fun c_25 => ?_)
                  · exact absurd c_25 (by decide)
                  · have c_25_ := c_25
                    refine lv_aload_n (pc := 28) hx hb dL_pattern_28 rfl (lv_at hl 3 rfl) ?_
                    refine lv_iload_n (pc := 29) hx hb dL_pattern_29 rfl (lv_at hl 4 rfl) ?_
                    refine lv_iload (pc := 30) hx hb dL_pattern_30 (lv_at hl 0 rfl) ?_
                    refine r_idiv (pc := 32) (a := f) (b := 10000) hx hb dL_pattern_32 ⟨⟨by omega, by omega⟩, by omega, by omega⟩ ?_
                    refine lv_bipush (pc := 33) (v := iv 10) hx hb dL_pattern_33 (by decide) ?_
                    refine r_irem (pc := 35) (a := f / 10000) (b := 10) hx hb dL_pattern_35 ⟨⟨by omega, by omega⟩, by omega, by omega⟩ ?_
                    have hm_35 := Int.emod_nonneg (f / 10000) (show 10 ≠ 0 by omega)
                    have hn_35 := Int.emod_lt_of_pos (f / 10000) (show 0 < 10 by omega)
                    rw [show (f / 10000) % 10 = d2 by omega]
                    refine c_callV (pc := 36) (y := yX4_phase) (As := [.int (iv d2)]) (rest := []) hC hE hP hD hS hl.1 (K_phaseL l ε hst hH 1 2 d2 rfl (by decide) (by decide) hd2) m_4_24 m_5_0 m_5_1 m_0_2 m_5_2 hob rfl hd_yX4_phase rfl ⟨⟨by decide, by decide⟩, (Nat.le_of_ble_eq_true rfl), (Nat.le_of_ble_eq_true rfl)⟩ (Nat.le_of_ble_eq_true rfl) rfl dL_pattern_36 kxN (fun v w_2 H locs hq hP hD hS => ?_)
                    refine W.widen (k := 4) (n := 24) (Nat.le_of_ble_eq_true rfl) (Nat.le_of_ble_eq_true rfl) ?_
                    have hH := hq.2
                    obtain ⟨fo, hob⟩ := hH.ob
                    rw [hq.1]
                    dsimp only [Option.toList, List.cons_append, List.nil_append]
                    refine lv_iload_n (pc := 39) hx hb dL_pattern_39 rfl (lv_at hl 1 rfl) ?_
                    refine r_icmp_eq (pc := 40) (a := 2) (b := 2) hx hb dL_pattern_40 (tgt := 46) (by decide) ⟨by omega, by omega⟩ ⟨by omega, by omega⟩ (fun c_40 => ?_) (fun c_40 => ?_)
                    · have c_40_ := c_40
                      refine lv_iinc (v := iv (3)) (lv' := [(3, .int (iv 3)), (4, .int (iv 10000)), (2, .int (iv 100000)), (0, .ref x), (1, .int (iv f))]) (pc := 46) hx hb dL_pattern_46 hl (k := 1) rfl (iv_add _ _) (by decide) rfl (fun ls hl => ?_)
                      refine lv_iload (pc := 49) hx hb dL_pattern_49 (lv_at hl 1 rfl) ?_
                      refine lv_bipush (pc := 51) (v := iv 10) hx hb dL_pattern_51 (by decide) ?_
                      refine r_idiv (pc := 53) (a := 10000) (b := 10) hx hb dL_pattern_53 ⟨⟨by omega, by omega⟩, by omega, by omega⟩ ?_
                      rw [show (10000 / 10 : Int) = 1000 by decide]
                      refine lv_istore (lv' := [(4, .int (iv 1000)), (3, .int (iv 3)), (2, .int (iv 100000)), (0, .ref x), (1, .int (iv f))]) (pc := 54) hx hb dL_pattern_54 hl (by decide) rfl (fun ls hl => ?_)
                      refine lv_goto (pc := 56) (tgt := 23) hx hb dL_pattern_56 (by decide) ?_
                      refine lv_iload (pc := 23) hx hb dL_pattern_23 (lv_at hl 0 rfl) ?_
                      refine r_if_le (pc := 25) (a := 1000) hx hb dL_pattern_25 (tgt := 59) (by decide) ⟨by omega, by omega⟩ (fun c_25 => ?_) (fun c_25 => ?_)
                      · exact absurd c_25 (by decide)
                      · have c_25_ := c_25
                        refine lv_aload_n (pc := 28) hx hb dL_pattern_28 rfl (lv_at hl 3 rfl) ?_
                        refine lv_iload_n (pc := 29) hx hb dL_pattern_29 rfl (lv_at hl 4 rfl) ?_
                        refine lv_iload (pc := 30) hx hb dL_pattern_30 (lv_at hl 0 rfl) ?_
                        refine r_idiv (pc := 32) (a := f) (b := 1000) hx hb dL_pattern_32 ⟨⟨by omega, by omega⟩, by omega, by omega⟩ ?_
                        refine lv_bipush (pc := 33) (v := iv 10) hx hb dL_pattern_33 (by decide) ?_
                        refine r_irem (pc := 35) (a := f / 1000) (b := 10) hx hb dL_pattern_35 ⟨⟨by omega, by omega⟩, by omega, by omega⟩ ?_
                        have hm_35 := Int.emod_nonneg (f / 1000) (show 10 ≠ 0 by omega)
                        have hn_35 := Int.emod_lt_of_pos (f / 1000) (show 0 < 10 by omega)
                        rw [show (f / 1000) % 10 = d3 by omega]
                        refine c_callV (pc := 36) (y := yX4_phase) (As := [.int (iv d3)]) (rest := []) hC hE hP hD hS hl.1 (K_phaseL l ε hst hH 2 3 d3 rfl (by decide) (by decide) hd3) m_4_24 m_5_0 m_5_1 m_0_2 m_5_2 hob rfl hd_yX4_phase rfl ⟨⟨by decide, by decide⟩, (Nat.le_of_ble_eq_true rfl), (Nat.le_of_ble_eq_true rfl)⟩ (Nat.le_of_ble_eq_true rfl) rfl dL_pattern_36 kxN (fun v w_3 H locs hq hP hD hS => ?_)
                        refine W.widen (k := 6) (n := 36) (Nat.le_of_ble_eq_true rfl) (Nat.le_of_ble_eq_true rfl) ?_
                        have hH := hq.2
                        obtain ⟨fo, hob⟩ := hH.ob
                        rw [hq.1]
                        dsimp only [Option.toList, List.cons_append, List.nil_append]
                        refine lv_iload_n (pc := 39) hx hb dL_pattern_39 rfl (lv_at hl 1 rfl) ?_
                        refine r_icmp_eq (pc := 40) (a := 3) (b := 3) hx hb dL_pattern_40 (tgt := 46) (by decide) ⟨by omega, by omega⟩ ⟨by omega, by omega⟩ (fun c_40 => ?_) (fun c_40 => ?_)
                        · have c_40_ := c_40
                          refine lv_iinc (v := iv (4)) (lv' := [(3, .int (iv 4)), (4, .int (iv 1000)), (2, .int (iv 100000)), (0, .ref x), (1, .int (iv f))]) (pc := 46) hx hb dL_pattern_46 hl (k := 1) rfl (iv_add _ _) (by decide) rfl (fun ls hl => ?_)
                          refine lv_iload (pc := 49) hx hb dL_pattern_49 (lv_at hl 1 rfl) ?_
                          refine lv_bipush (pc := 51) (v := iv 10) hx hb dL_pattern_51 (by decide) ?_
                          refine r_idiv (pc := 53) (a := 1000) (b := 10) hx hb dL_pattern_53 ⟨⟨by omega, by omega⟩, by omega, by omega⟩ ?_
                          rw [show (1000 / 10 : Int) = 100 by decide]
                          refine lv_istore (lv' := [(4, .int (iv 100)), (3, .int (iv 4)), (2, .int (iv 100000)), (0, .ref x), (1, .int (iv f))]) (pc := 54) hx hb dL_pattern_54 hl (by decide) rfl (fun ls hl => ?_)
                          refine lv_goto (pc := 56) (tgt := 23) hx hb dL_pattern_56 (by decide) ?_
                          refine lv_iload (pc := 23) hx hb dL_pattern_23 (lv_at hl 0 rfl) ?_
                          refine r_if_le (pc := 25) (a := 100) hx hb dL_pattern_25 (tgt := 59) (by decide) ⟨by omega, by omega⟩ (fun c_25 => ?_) (fun c_25 => ?_)
                          · exact absurd c_25 (by decide)
                          · have c_25_ := c_25
                            refine lv_aload_n (pc := 28) hx hb dL_pattern_28 rfl (lv_at hl 3 rfl) ?_
                            refine lv_iload_n (pc := 29) hx hb dL_pattern_29 rfl (lv_at hl 4 rfl) ?_
                            refine lv_iload (pc := 30) hx hb dL_pattern_30 (lv_at hl 0 rfl) ?_
                            refine r_idiv (pc := 32) (a := f) (b := 100) hx hb dL_pattern_32 ⟨⟨by omega, by omega⟩, by omega, by omega⟩ ?_
                            refine lv_bipush (pc := 33) (v := iv 10) hx hb dL_pattern_33 (by decide) ?_
                            refine r_irem (pc := 35) (a := f / 100) (b := 10) hx hb dL_pattern_35 ⟨⟨by omega, by omega⟩, by omega, by omega⟩ ?_
                            have hm_35 := Int.emod_nonneg (f / 100) (show 10 ≠ 0 by omega)
                            have hn_35 := Int.emod_lt_of_pos (f / 100) (show 0 < 10 by omega)
                            rw [show (f / 100) % 10 = d4 by omega]
                            refine c_callV (pc := 36) (y := yX4_phase) (As := [.int (iv d4)]) (rest := []) hC hE hP hD hS hl.1 (K_phaseL l ε hst hH 3 4 d4 rfl (by decide) (by decide) hd4) m_4_24 m_5_0 m_5_1 m_0_2 m_5_2 hob rfl hd_yX4_phase rfl ⟨⟨by decide, by decide⟩, (Nat.le_of_ble_eq_true rfl), (Nat.le_of_ble_eq_true rfl)⟩ (Nat.le_of_ble_eq_true rfl) rfl dL_pattern_36 kxN (fun v w_4 H locs hq hP hD hS => ?_)
                            refine W.widen (k := 8) (n := 48) (Nat.le_of_ble_eq_true rfl) (Nat.le_of_ble_eq_true rfl) ?_
                            have hH := hq.2
                            obtain ⟨fo, hob⟩ := hH.ob
                            rw [hq.1]
                            dsimp only [Option.toList, List.cons_append, List.nil_append]
                            refine lv_iload_n (pc := 39) hx hb dL_pattern_39 rfl (lv_at hl 1 rfl) ?_
                            refine r_icmp_eq (pc := 40) (a := 4) (b := 4) hx hb dL_pattern_40 (tgt := 46) (by decide) ⟨by omega, by omega⟩ ⟨by omega, by omega⟩ (fun c_40 => ?_) (fun c_40 => ?_)
                            · have c_40_ := c_40
                              refine lv_iinc (v := iv (5)) (lv' := [(3, .int (iv 5)), (4, .int (iv 100)), (2, .int (iv 100000)), (0, .ref x), (1, .int (iv f))]) (pc := 46) hx hb dL_pattern_46 hl (k := 1) rfl (iv_add _ _) (by decide) rfl (fun ls hl => ?_)
                              refine lv_iload (pc := 49) hx hb dL_pattern_49 (lv_at hl 1 rfl) ?_
                              refine lv_bipush (pc := 51) (v := iv 10) hx hb dL_pattern_51 (by decide) ?_
                              refine r_idiv (pc := 53) (a := 100) (b := 10) hx hb dL_pattern_53 ⟨⟨by omega, by omega⟩, by omega, by omega⟩ ?_
                              rw [show (100 / 10 : Int) = 10 by decide]
                              refine lv_istore (lv' := [(4, .int (iv 10)), (3, .int (iv 5)), (2, .int (iv 100000)), (0, .ref x), (1, .int (iv f))]) (pc := 54) hx hb dL_pattern_54 hl (by decide) rfl (fun ls hl => ?_)
                              refine lv_goto (pc := 56) (tgt := 23) hx hb dL_pattern_56 (by decide) ?_
                              refine lv_iload (pc := 23) hx hb dL_pattern_23 (lv_at hl 0 rfl) ?_
                              refine r_if_le (pc := 25) (a := 10) hx hb dL_pattern_25 (tgt := 59) (by decide) ⟨by omega, by omega⟩ (fun c_25 => ?_) (fun c_25 => ?_)
                              · exact absurd c_25 (by decide)
                              · have c_25_ := c_25
                                refine lv_aload_n (pc := 28) hx hb dL_pattern_28 rfl (lv_at hl 3 rfl) ?_
                                refine lv_iload_n (pc := 29) hx hb dL_pattern_29 rfl (lv_at hl 4 rfl) ?_
                                refine lv_iload (pc := 30) hx hb dL_pattern_30 (lv_at hl 0 rfl) ?_
                                refine r_idiv (pc := 32) (a := f) (b := 10) hx hb dL_pattern_32 ⟨⟨by omega, by omega⟩, by omega, by omega⟩ ?_
                                refine lv_bipush (pc := 33) (v := iv 10) hx hb dL_pattern_33 (by decide) ?_
                                refine r_irem (pc := 35) (a := f / 10) (b := 10) hx hb dL_pattern_35 ⟨⟨by omega, by omega⟩, by omega, by omega⟩ ?_
                                have hm_35 := Int.emod_nonneg (f / 10) (show 10 ≠ 0 by omega)
                                have hn_35 := Int.emod_lt_of_pos (f / 10) (show 0 < 10 by omega)
                                rw [show (f / 10) % 10 = d5 by omega]
                                refine c_callV (pc := 36) (y := yX4_phase) (As := [.int (iv d5)]) (rest := []) hC hE hP hD hS hl.1 (K_phaseL l ε hst hH 4 5 d5 rfl (by decide) (by decide) hd5) m_4_24 m_5_0 m_5_1 m_0_2 m_5_2 hob rfl hd_yX4_phase rfl ⟨⟨by decide, by decide⟩, (Nat.le_of_ble_eq_true rfl), (Nat.le_of_ble_eq_true rfl)⟩ (Nat.le_of_ble_eq_true rfl) rfl dL_pattern_36 kxN (fun v w_5 H locs hq hP hD hS => ?_)
                                refine W.widen (k := 10) (n := 60) (Nat.le_of_ble_eq_true rfl) (Nat.le_of_ble_eq_true rfl) ?_
                                have hH := hq.2
                                obtain ⟨fo, hob⟩ := hH.ob
                                rw [hq.1]
                                dsimp only [Option.toList, List.cons_append, List.nil_append]
                                refine lv_iload_n (pc := 39) hx hb dL_pattern_39 rfl (lv_at hl 1 rfl) ?_
                                refine r_icmp_eq (pc := 40) (a := 5) (b := 5) hx hb dL_pattern_40 (tgt := 46) (by decide) ⟨by omega, by omega⟩ ⟨by omega, by omega⟩ (fun c_40 => ?_) (fun c_40 => ?_)
                                · have c_40_ := c_40
                                  refine lv_iinc (v := iv (6)) (lv' := [(3, .int (iv 6)), (4, .int (iv 10)), (2, .int (iv 100000)), (0, .ref x), (1, .int (iv f))]) (pc := 46) hx hb dL_pattern_46 hl (k := 1) rfl (iv_add _ _) (by decide) rfl (fun ls hl => ?_)
                                  refine lv_iload (pc := 49) hx hb dL_pattern_49 (lv_at hl 1 rfl) ?_
                                  refine lv_bipush (pc := 51) (v := iv 10) hx hb dL_pattern_51 (by decide) ?_
                                  refine r_idiv (pc := 53) (a := 10) (b := 10) hx hb dL_pattern_53 ⟨⟨by omega, by omega⟩, by omega, by omega⟩ ?_
                                  rw [show (10 / 10 : Int) = 1 by decide]
                                  refine lv_istore (lv' := [(4, .int (iv 1)), (3, .int (iv 6)), (2, .int (iv 100000)), (0, .ref x), (1, .int (iv f))]) (pc := 54) hx hb dL_pattern_54 hl (by decide) rfl (fun ls hl => ?_)
                                  refine lv_goto (pc := 56) (tgt := 23) hx hb dL_pattern_56 (by decide) ?_
                                  refine lv_iload (pc := 23) hx hb dL_pattern_23 (lv_at hl 0 rfl) ?_
                                  refine r_if_le (pc := 25) (a := 1) hx hb dL_pattern_25 (tgt := 59) (by decide) ⟨by omega, by omega⟩ (fun c_25 => ?_) (fun c_25 => ?_)
                                  · exact absurd c_25 (by decide)
                                  · have c_25_ := c_25
                                    refine lv_aload_n (pc := 28) hx hb dL_pattern_28 rfl (lv_at hl 3 rfl) ?_
                                    refine lv_iload_n (pc := 29) hx hb dL_pattern_29 rfl (lv_at hl 4 rfl) ?_
                                    refine lv_iload (pc := 30) hx hb dL_pattern_30 (lv_at hl 0 rfl) ?_
                                    refine r_idiv (pc := 32) (a := f) (b := 1) hx hb dL_pattern_32 ⟨⟨by omega, by omega⟩, by omega, by omega⟩ ?_
                                    refine lv_bipush (pc := 33) (v := iv 10) hx hb dL_pattern_33 (by decide) ?_
                                    refine r_irem (pc := 35) (a := f / 1) (b := 10) hx hb dL_pattern_35 ⟨⟨by omega, by omega⟩, by omega, by omega⟩ ?_
                                    have hm_35 := Int.emod_nonneg (f / 1) (show 10 ≠ 0 by omega)
                                    have hn_35 := Int.emod_lt_of_pos (f / 1) (show 0 < 10 by omega)
                                    rw [show (f / 1) % 10 = d6 by omega]
                                    refine c_callV (pc := 36) (y := yX4_phase) (As := [.int (iv d6)]) (rest := []) hC hE hP hD hS hl.1 (K_phaseL l ε hst hH 5 6 d6 rfl (by decide) (by decide) hd6) m_4_24 m_5_0 m_5_1 m_0_2 m_5_2 hob rfl hd_yX4_phase rfl ⟨⟨by decide, by decide⟩, (Nat.le_of_ble_eq_true rfl), (Nat.le_of_ble_eq_true rfl)⟩ (Nat.le_of_ble_eq_true rfl) rfl dL_pattern_36 kxN (fun v w_6 H locs hq hP hD hS => ?_)
                                    refine W.widen (k := 12) (n := 72) (Nat.le_of_ble_eq_true rfl) (Nat.le_of_ble_eq_true rfl) ?_
                                    have hH := hq.2
                                    obtain ⟨fo, hob⟩ := hH.ob
                                    rw [hq.1]
                                    dsimp only [Option.toList, List.cons_append, List.nil_append]
                                    refine lv_iload_n (pc := 39) hx hb dL_pattern_39 rfl (lv_at hl 1 rfl) ?_
                                    refine r_icmp_eq (pc := 40) (a := 6) (b := 6) hx hb dL_pattern_40 (tgt := 46) (by decide) ⟨by omega, by omega⟩ ⟨by omega, by omega⟩ (fun c_40 => ?_) (fun c_40 => ?_)
                                    · have c_40_ := c_40
                                      refine lv_iinc (v := iv (7)) (lv' := [(3, .int (iv 7)), (4, .int (iv 1)), (2, .int (iv 100000)), (0, .ref x), (1, .int (iv f))]) (pc := 46) hx hb dL_pattern_46 hl (k := 1) rfl (iv_add _ _) (by decide) rfl (fun ls hl => ?_)
                                      refine lv_iload (pc := 49) hx hb dL_pattern_49 (lv_at hl 1 rfl) ?_
                                      refine lv_bipush (pc := 51) (v := iv 10) hx hb dL_pattern_51 (by decide) ?_
                                      refine r_idiv (pc := 53) (a := 1) (b := 10) hx hb dL_pattern_53 ⟨⟨by omega, by omega⟩, by omega, by omega⟩ ?_
                                      rw [show (1 / 10 : Int) = 0 by decide]
                                      refine lv_istore (lv' := [(4, .int (iv 0)), (3, .int (iv 7)), (2, .int (iv 100000)), (0, .ref x), (1, .int (iv f))]) (pc := 54) hx hb dL_pattern_54 hl (by decide) rfl (fun ls hl => ?_)
                                      refine lv_goto (pc := 56) (tgt := 23) hx hb dL_pattern_56 (by decide) ?_
                                      refine lv_iload (pc := 23) hx hb dL_pattern_23 (lv_at hl 0 rfl) ?_
                                      refine r_if_le (pc := 25) (a := 0) hx hb dL_pattern_25 (tgt := 59) (by decide) ⟨by omega, by omega⟩ (fun c_25 => ?_) (fun c_25 => ?_)
                                      · have c_25_ := c_25
                                        refine lv_aload_n (pc := 59) hx hb dL_pattern_59 rfl (lv_at hl 3 rfl) ?_
                                        refine c_callV (pc := 60) (y := yX4_pattern) (As := []) (rest := []) hC hE hP hD hS hl.1 (K_pattern l ε hst hH (Or.inr (Or.inr rfl)) h20) m_5_10 m_5_11 m_5_12 m_0_2 m_5_13 hob rfl hd_yX4_pattern rfl ⟨⟨by decide, by decide⟩, (Nat.le_of_ble_eq_true rfl), (Nat.le_of_ble_eq_true rfl)⟩ (Nat.le_of_ble_eq_true rfl) rfl dL_pattern_60 kxN (fun v w_7 H locs hq hP hD hS => ?_)
                                        refine W.widen (k := 17) (n := 3172) (Nat.le_of_ble_eq_true rfl) (Nat.le_of_ble_eq_true rfl) ?_
                                        have hH := hq.2
                                        obtain ⟨fo, hob⟩ := hH.ob
                                        rw [hq.1]
                                        dsimp only [Option.toList, List.cons_append, List.nil_append]
                                        refine c_iret (pc := 63) hC hQ hP hD hS (by decide) (by decide) dL_pattern_63 ?_
                                        exact ⟨rfl, hH⟩
                                      · exact absurd c_25 (by decide)
                                    · exact absurd c_40 (by decide)
                                · exact absurd c_40 (by decide)
                            · exact absurd c_40 (by decide)
                        · exact absurd c_40 (by decide)
                    · exact absurd c_40 (by decide)
                · exact absurd c_40 (by decide)
            · have c_9_ := c_9
              omega

