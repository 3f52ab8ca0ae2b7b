abbrev rm_c_A_growIA : Room := { frames := 3, cells := 1, slots := 1000, locals := 150 }
set_option maxRecDepth 100000 in
set_option maxHeartbeats 4000000 in
theorem c_A_growIA (l : Launch) (ε : EV) (X : va_W) (L : List Nat) (f : Nat → va_E) (al : Nat) (md : Int) (d : Nat → Option Nat) (hal : al ∈ L) (hfa : f al = oAL md (ε.2.2.2 0) 0) (mi : Int) (hm : mi = 1) : CT l yJx4a65c_grow_92f84 cJx4a65c_grow_92f84 4 (some (.array (.object "java/lang/Object"))) rm_c_A_growIA ε [.ref al, .int (iv mi)] (X ++ va_pl L f) (GROWN ε X L f al md 0 0 d) NX := by
  refine CT.intro (by decide +kernel) (Nat.le_of_ble_eq_true rfl) ?_
  intro p9 e9 s9 m9 a9 bl9 me9 c9 ls Q9 hC hE hP hD hl hQ
  have hx := hC.1
  have hb := hC.2.1
  have hK := hE.K
  have hS : WS ε s9.heap s9.heap [] := va_S.rf
  have hl : lv_has ls 4 [(0, .ref al), (1, .int (iv mi))] := hl
  obtain ⟨H, hH⟩ : ∃ H, H = s9.heap := ⟨_, rfl⟩
  obtain ⟨locs, hlo⟩ : ∃ z : List Loc, z = [] := ⟨_, rfl⟩
  rw [← hH] at hP ⊢
  have hS : WS ε s9.heap H locs := by rw [hH, hlo]; exact hS
  rw [← hlo]
  clear hH hlo
  refine lv_aload_n (pc := 0) hx hb dJx4a65c_grow_92f84_0 rfl (lv_at hl 0 rfl) ?_
  refine r_get (pc := 1) hC hK hP (in_pl hal hfa) (hc := rfl) (fun w h => wt_2 w h) 1 (by decide) m_1_8 (fun _ h => h) (v := .ref ((ε.2.2.2 0))) rfl dJx4a65c_grow_92f84_1 ?_
  refine r_alenT (pc := 4) hC hE hS dJx4a65c_grow_92f84_4 ?_
  refine lv_istore_n (lv' := [(2, .int (iv 0)), (0, .ref al), (1, .int (iv mi))]) (pc := 5) hx hb dJx4a65c_grow_92f84_5 rfl hl (by decide) rfl (fun ls hl => ?_)
  refine lv_iload_n (pc := 6) hx hb dJx4a65c_grow_92f84_6 rfl (lv_at hl 0 rfl) ?_
  refine r_if_gt (pc := 7) (a := 0) hx hb dJx4a65c_grow_92f84_7 (tgt := 20) (by decide) ⟨by omega, by omega⟩ (fun c_7 => ?_) (fun c_7 => ?_)
  · exact absurd c_7 (by decide)
  · have c_7_ := c_7
    refine lv_aload_n (pc := 10) hx hb dJx4a65c_grow_92f84_10 rfl (lv_at hl 1 rfl) ?_
    refine r_get (pc := 11) hC hK hP (in_pl hal hfa) (hc := rfl) (fun w h => wt_2 w h) 1 (by decide) m_1_8 (fun _ h => h) (v := .ref ((ε.2.2.2 0))) rfl dJx4a65c_grow_92f84_11 ?_
    refine r_empty (pc := 14) hC hE hS dJx4a65c_grow_92f84_14 ?_
    refine lv_acmp_eq (pc := 17) (rx := some (ε.2.2.2 0)) (ry := some (ε.2.2.2 0)) (tgt := 45) hx hb dJx4a65c_grow_92f84_17 (by decide) (fun _ => ?_) (fun c_17 => absurd rfl c_17)
    refine lv_aload_n (pc := 45) hx hb dJx4a65c_grow_92f84_45 rfl (lv_at hl 1 rfl) ?_
    refine lv_bipush (pc := 46) (v := iv 10) hx hb dJx4a65c_grow_92f84_46 (by decide) ?_
    refine lv_iload_n (pc := 48) hx hb dJx4a65c_grow_92f84_48 rfl (lv_at hl 2 rfl) ?_
    refine r_max (pc := 49) (x := 10) (y := mi) hC hl.1 m_7_15 (by decide) (Nat.le_of_ble_eq_true rfl) (by decide) (by decide) ⟨by omega, by omega⟩ ⟨by omega, by omega⟩ dJx4a65c_grow_92f84_49 ?_
    have hmn_49 : (mx 10 mi = 10 ∨ mx 10 mi = mi) ∧ 10 ≤ mx 10 mi ∧ mi ≤ mx 10 mi := by unfold mx; split <;> omega
    refine p_newO (pc := 52) (z := mx 10 mi) (N := (mx 10 mi).toNat) hC hE hP hD hS (by omega) (by omega) (by decide) (by show _ ≤ 1000; omega) m_7_18 dJx4a65c_grow_92f84_52 (fun q1 H hq1 hP hD hS => ?_)
    replace hP : WP ε (X ++ va_pl (L ++ [q1]) (va_up f q1 (eO ε ((mx 10 mi).toNat) (fun _ => none)))) H := hP
    replace hD : WD ε (X ++ va_pl (L ++ [q1]) (va_up f q1 (eO ε ((mx 10 mi).toNat) (fun _ => none)))) := hD
    refine W.widen (Nat.le_refl _) (show _ ≤ 1000 from by omega) ?_
    refine lv_dup_x1 (pc := 55) hx hb dJx4a65c_grow_92f84_55 rfl rfl ?_
    refine p_put (pc := 56) (ci := 0) (T := TJx4a65c) (N := 3) (fs := [.int (iv md), .ref ((ε.2.2.2 0)), .int (iv 0)]) hC hK hP hD hS (List.mem_append_left _ hal) ((va_up_ne _ _ (fun hz : al = q1 => hq1 (hz ▸ hal))).trans hfa) rfl (fun w h => wt_2 w h) tyJx4a65c tyJx4a65c_ok nmJx4a65c 1 (by decide) m_1_8 (fun _ h => h) rfl (v := .ref q1) rfl rfl (Nat.le_of_ble_eq_true rfl) dJx4a65c_grow_92f84_56 (fun H locs hP hD hS => ?_)
    replace hP : WP ε (X ++ va_pl (L ++ [q1]) (va_up (va_up f q1 (eO ε ((mx 10 mi).toNat) (fun _ => none))) al (.inr (0, [.int (iv md), .ref q1, .int (iv 0)])))) H := hP
    replace hD : WD ε (X ++ va_pl (L ++ [q1]) (va_up (va_up f q1 (eO ε ((mx 10 mi).toNat) (fun _ => none))) al (.inr (0, [.int (iv md), .ref q1, .int (iv 0)])))) := hD
    refine c_aret (pc := 59) hC (Or.inr ⟨_, rfl⟩) (Or.inr ⟨_, rfl⟩) hQ hP hD hS (by decide) (by decide) dJx4a65c_grow_92f84_59 ?_
    exact ⟨_, fun _ => none, (mx 10 mi).toNat, hq1, ⟨by omega, by omega⟩, fun k h1 h2 => by omega, rfl, rfl⟩

abbrev rm_c_A_growIB : Room := { frames := 3, cells := 1, slots := 1000, locals := 150 }
set_option maxRecDepth 100000 in
set_option maxHeartbeats 4000000 in
theorem c_A_growIB (l : Launch) (ε : EV) (X : va_W) (L : List Nat) (f : Nat → va_E) (al ed : Nat) (md n : Int) (cap : Nat) (d : Nat → Option Nat) (hal : al ∈ L) (hfa : f al = oAL md ed n) (hed : ed ∈ L) (hfe : f ed = eO ε cap d) (hne : al ≠ ed) (ci : Nat) (r9 : vw_C) (hc9 : vwCl[ci]? = some r9) (hcast : Cond.castable r9.1 nObj ∈ castW) (hci : ci ≠ 0) (hel : ∀ i : Nat, (i : Int) < cap → ∀ y : Nat, d i = some y → y ∈ L ∧ ∃ fs, f y = .inr (ci, fs)) (mi : Int) (hm : mi = cap + 1) (hc6 : 1 ≤ cap ∧ cap ≤ 600) : CT l yJx4a65c_grow_92f84 cJx4a65c_grow_92f84 4 (some (.array (.object "java/lang/Object"))) rm_c_A_growIB ε [.ref al, .int (iv mi)] (X ++ va_pl L f) (GROWN ε X L f al md n cap d) NX := by
  refine CT.intro (by decide +kernel) (Nat.le_of_ble_eq_true rfl) ?_
  intro p9 e9 s9 m9 a9 bl9 me9 c9 ls Q9 hC hE hP hD hl hQ
  have hx := hC.1
  have hb := hC.2.1
  have hK := hE.K
  have hS : WS ε s9.heap s9.heap [] := va_S.rf
  have hl : lv_has ls 4 [(0, .ref al), (1, .int (iv mi))] := hl
  obtain ⟨H, hH⟩ : ∃ H, H = s9.heap := ⟨_, rfl⟩
  obtain ⟨locs, hlo⟩ : ∃ z : List Loc, z = [] := ⟨_, rfl⟩
  rw [← hH] at hP ⊢
  have hS : WS ε s9.heap H locs := by rw [hH, hlo]; exact hS
  rw [← hlo]
  clear hH hlo
  refine lv_aload_n (pc := 0) hx hb dJx4a65c_grow_92f84_0 rfl (lv_at hl 0 rfl) ?_
  refine r_get (pc := 1) hC hK hP (in_pl hal hfa) (hc := rfl) (fun w h => wt_2 w h) 1 (by decide) m_1_8 (fun _ h => h) (v := .ref ed) rfl dJx4a65c_grow_92f84_1 ?_
  refine r_alenO (pc := 4) hC hK hP (in_pl hed hfe) dJx4a65c_grow_92f84_4 ?_
  refine lv_istore_n (lv' := [(2, .int (iv ((cap : Int)))), (0, .ref al), (1, .int (iv mi))]) (pc := 5) hx hb dJx4a65c_grow_92f84_5 rfl hl (by decide) rfl (fun ls hl => ?_)
  refine lv_iload_n (pc := 6) hx hb dJx4a65c_grow_92f84_6 rfl (lv_at hl 0 rfl) ?_
  refine r_if_gt (pc := 7) (a := (cap : Int)) hx hb dJx4a65c_grow_92f84_7 (tgt := 20) (by decide) ⟨by omega, by omega⟩ (fun c_7 => ?_) (fun c_7 => ?_)
  · have c_7_ := c_7
    refine lv_iload_n (pc := 20) hx hb dJx4a65c_grow_92f84_20 rfl (lv_at hl 0 rfl) ?_
    refine lv_iload_n (pc := 21) hx hb dJx4a65c_grow_92f84_21 rfl (lv_at hl 2 rfl) ?_
    refine lv_iload_n (pc := 22) hx hb dJx4a65c_grow_92f84_22 rfl (lv_at hl 0 rfl) ?_
    refine r_isub (pc := 23) (a := mi) (b := (cap : Int)) hx hb dJx4a65c_grow_92f84_23 ?_
    refine lv_iload_n (pc := 24) hx hb dJx4a65c_grow_92f84_24 rfl (lv_at hl 0 rfl) ?_
    refine lv_iconst (pc := 25) (v := iv 1) hx hb dJx4a65c_grow_92f84_25 rfl ?_
    refine lv_ishr (pc := 26) (x := iv ((cap : Int))) (y := iv 1) hx hb dJx4a65c_grow_92f84_26 ?_
    rw [iv_sshr1 (a := (cap : Int)) ⟨by omega, by omega⟩]
    refine c_callS (pc := 27) (y := yJ8_newLength_cabcc) (As := [.int (iv ((cap : Int))), .int (iv (mi - ((cap : Int)))), .int (iv (((cap : Int)) / 2))]) (rest := []) hC hE hP hD hS hl.1 (c_J_newLength l ε (X ++ va_pl L f) ((cap : Int)) (mi - ((cap : Int))) (((cap : Int)) / 2) ⟨by omega, by omega⟩ ⟨by omega, by omega⟩ ⟨by omega, by omega⟩) m_7_19 m_7_20 m_7_21 m_7_22 hd_yJ8_newLength_cabcc rfl ⟨⟨by decide, by decide⟩, by decide, by decide⟩ (Nat.le_of_ble_eq_true rfl) rfl dJx4a65c_grow_92f84_27 kxN (fun v ws1 H locs hq hP hD hS => ?_)
    rw [hq.2] at hP hD
    rw [hq.1]
    dsimp only [Option.toList, List.cons_append, List.nil_append]
    have hmx : (mx (mi - ((cap : Int))) (((cap : Int)) / 2) = mi - ((cap : Int)) ∨ mx (mi - ((cap : Int))) (((cap : Int)) / 2) = ((cap : Int)) / 2) := by unfold mx; split <;> omega
    have hmy : mi - ((cap : Int)) ≤ mx (mi - ((cap : Int))) (((cap : Int)) / 2) ∧ ((cap : Int)) / 2 ≤ mx (mi - ((cap : Int))) (((cap : Int)) / 2) := by unfold mx; split <;> omega
    refine lv_istore_n (lv' := [(3, .int (iv (((cap : Int)) + mx (mi - ((cap : Int))) (((cap : Int)) / 2)))), (2, .int (iv ((cap : Int)))), (0, .ref al), (1, .int (iv mi))]) (pc := 30) hx hb dJx4a65c_grow_92f84_30 rfl hl (by decide) rfl (fun ls hl => ?_)
    refine lv_aload_n (pc := 31) hx hb dJx4a65c_grow_92f84_31 rfl (lv_at hl 2 rfl) ?_
    refine lv_aload_n (pc := 32) hx hb dJx4a65c_grow_92f84_32 rfl (lv_at hl 2 rfl) ?_
    refine r_get (pc := 33) hC hK hP (in_pl hal hfa) (hc := rfl) (fun w h => wt_2 w h) 1 (by decide) m_1_8 (fun _ h => h) (v := .ref ed) rfl dJx4a65c_grow_92f84_33 ?_
    refine lv_iload_n (pc := 36) hx hb dJx4a65c_grow_92f84_36 rfl (lv_at hl 0 rfl) ?_
    refine c_callS (pc := 37) (y := yJ7_copyOf_1904c) (As := [.ref ed, .int (iv (((cap : Int)) + mx (mi - ((cap : Int))) (((cap : Int)) / 2)))]) (rest := [.ref al]) hC hE hP hD hS hl.1 (c_J_copyO l ε X L f ed cap d hed hfe (((cap : Int)) + mx (mi - ((cap : Int))) (((cap : Int)) / 2)) ⟨by omega, by omega⟩ ci r9 hc9 hcast hel) m_8_3 m_8_4 m_5_18 m_8_5 hd_yJ7_copyOf_1904c rfl ⟨⟨by decide, by decide⟩, by decide, by decide⟩ (Nat.le_of_ble_eq_true rfl) rfl dJx4a65c_grow_92f84_37 kxN (fun v ws1 H locs hq hP hD hS => ?_)
    obtain ⟨q1, g2, hq1, hg2, hv_, hw_⟩ := hq
    rw [hw_] at hP hD
    rw [hv_]
    clear hv_ hw_
    dsimp only [Option.toList, List.cons_append, List.nil_append]
    replace hP : WP ε (X ++ va_pl (L ++ [q1]) (va_up f q1 (eO ε ((((cap : Int)) + mx (mi - ((cap : Int))) (((cap : Int)) / 2)).toNat) g2))) H := hP
    replace hD : WD ε (X ++ va_pl (L ++ [q1]) (va_up f q1 (eO ε ((((cap : Int)) + mx (mi - ((cap : Int))) (((cap : Int)) / 2)).toNat) g2))) := hD
    refine lv_dup_x1 (pc := 40) hx hb dJx4a65c_grow_92f84_40 rfl rfl ?_
    refine p_put (pc := 41) (ci := 0) (T := TJx4a65c) (N := 3) (fs := [.int (iv md), .ref ed, .int (iv n)]) hC hK hP hD hS (List.mem_append_left _ hal) ((va_up_ne _ _ (fun hz : al = q1 => hq1 (hz ▸ hal))).trans hfa) rfl (fun w h => wt_2 w h) tyJx4a65c tyJx4a65c_ok nmJx4a65c 1 (by decide) m_1_8 (fun _ h => h) rfl (v := .ref q1) rfl rfl (Nat.le_of_ble_eq_true rfl) dJx4a65c_grow_92f84_41 (fun H locs hP hD hS => ?_)
    replace hP : WP ε (X ++ va_pl (L ++ [q1]) (va_up (va_up f q1 (eO ε ((((cap : Int)) + mx (mi - ((cap : Int))) (((cap : Int)) / 2)).toNat) g2)) al (.inr (0, [.int (iv md), .ref q1, .int (iv n)])))) H := hP
    replace hD : WD ε (X ++ va_pl (L ++ [q1]) (va_up (va_up f q1 (eO ε ((((cap : Int)) + mx (mi - ((cap : Int))) (((cap : Int)) / 2)).toNat) g2)) al (.inr (0, [.int (iv md), .ref q1, .int (iv n)])))) := hD
    refine c_aret (pc := 44) hC (Or.inr ⟨_, rfl⟩) (Or.inr ⟨_, rfl⟩) hQ hP hD hS (by decide) (by decide) dJx4a65c_grow_92f84_44 ?_
    exact ⟨_, _, _, hq1, ⟨by omega, by omega⟩, hg2, rfl, rfl⟩
  · have c_7_ := c_7
    omega

abbrev rm_c_A_growA : Room := { frames := 4, cells := 1, slots := 1000, locals := 180 }
set_option maxRecDepth 100000 in
set_option maxHeartbeats 4000000 in
theorem c_A_growA (l : Launch) (ε : EV) (X : va_W) (L : List Nat) (f : Nat → va_E) (al : Nat) (md : Int) (d : Nat → Option Nat) (hal : al ∈ L) (hfa : f al = oAL md (ε.2.2.2 0) 0) : CT l yJx4a65c_grow_d5877 cJx4a65c_grow_d5877 1 (some (.array (.object "java/lang/Object"))) rm_c_A_growA ε [.ref al] (X ++ va_pl L f) (GROWN ε X L f al md 0 0 d) NX := by
  refine CT.intro (by decide +kernel) (Nat.le_of_ble_eq_true rfl) ?_
  intro p9 e9 s9 m9 a9 bl9 me9 c9 ls Q9 hC hE hP hD hl hQ
  have hx := hC.1
  have hb := hC.2.1
  have hK := hE.K
  have hS : WS ε s9.heap s9.heap [] := va_S.rf
  have hl : lv_has ls 1 [(0, .ref al)] := hl
  obtain ⟨H, hH⟩ : ∃ H, H = s9.heap := ⟨_, rfl⟩
  obtain ⟨locs, hlo⟩ : ∃ z : List Loc, z = [] := ⟨_, rfl⟩
  rw [← hH] at hP ⊢
  have hS : WS ε s9.heap H locs := by rw [hH, hlo]; exact hS
  rw [← hlo]
  clear hH hlo
  refine lv_aload_n (pc := 0) hx hb dJx4a65c_grow_d5877_0 rfl (lv_at hl 0 rfl) ?_
  refine lv_aload_n (pc := 1) hx hb dJx4a65c_grow_d5877_1 rfl (lv_at hl 0 rfl) ?_
  refine r_get (pc := 2) hC hK hP (in_pl hal hfa) (hc := rfl) (fun w h => wt_2 w h) 2 (by decide) m_2_7 (fun _ h => h) (v := .int (iv 0)) rfl dJx4a65c_grow_d5877_2 ?_
  refine lv_iconst (pc := 5) (v := iv 1) hx hb dJx4a65c_grow_d5877_5 rfl ?_
  refine r_iadd (pc := 6) (a := 0) (b := 1) hx hb dJx4a65c_grow_d5877_6 ?_
  refine c_callV (pc := 7) (y := yJx4a65c_grow_92f84) (As := [.int (iv (0 + 1))]) (rest := []) hC hE hP hD hS hl.1 (c_A_growIA l ε X L f al (md) d hal hfa (0 + 1) (by omega)) m_7_11 m_7_12 m_7_13 m_0_24 m_7_14 (in_pl hal hfa) rfl hd_yJx4a65c_grow_92f84 rfl ⟨⟨by decide, by decide⟩, by decide, by decide⟩ (Nat.le_of_ble_eq_true rfl) rfl dJx4a65c_grow_d5877_7 kxN (fun v ws1 H locs hq hP hD hS => ?_)
  obtain ⟨q1, g2, m3, hq1, hm3, hg2, hv_, hw_⟩ := hq
  rw [hw_] at hP hD
  rw [hv_]
  clear hv_ hw_
  dsimp only [Option.toList, List.cons_append, List.nil_append]
  replace hP : WP ε (X ++ va_pl (L ++ [q1]) (va_up (va_up f q1 (eO ε m3 g2)) al (.inr (0, [.int (iv md), .ref q1, .int (iv 0)])))) H := hP
  replace hD : WD ε (X ++ va_pl (L ++ [q1]) (va_up (va_up f q1 (eO ε m3 g2)) al (.inr (0, [.int (iv md), .ref q1, .int (iv 0)])))) := hD
  refine c_aret (pc := 10) hC (Or.inr ⟨_, rfl⟩) (Or.inr ⟨_, rfl⟩) hQ hP hD hS (by decide) (by decide) dJx4a65c_grow_d5877_10 ?_
  exact ⟨_, _, _, hq1, hm3, hg2, rfl, rfl⟩

abbrev rm_c_A_growB : Room := { frames := 4, cells := 1, slots := 1000, locals := 180 }
set_option maxRecDepth 100000 in
set_option maxHeartbeats 4000000 in
theorem c_A_growB (l : Launch) (ε : EV) (X : va_W) (L : List Nat) (f : Nat → va_E) (al ed : Nat) (md n : Int) (cap : Nat) (d : Nat → Option Nat) (hal : al ∈ L) (hfa : f al = oAL md ed n) (hed : ed ∈ L) (hfe : f ed = eO ε cap d) (hne : al ≠ ed) (ci : Nat) (r9 : vw_C) (hc9 : vwCl[ci]? = some r9) (hcast : Cond.castable r9.1 nObj ∈ castW) (hci : ci ≠ 0) (hel : ∀ i : Nat, (i : Int) < cap → ∀ y : Nat, d i = some y → y ∈ L ∧ ∃ fs, f y = .inr (ci, fs)) (hn : n = cap) (hc6 : 1 ≤ cap ∧ cap ≤ 600) : CT l yJx4a65c_grow_d5877 cJx4a65c_grow_d5877 1 (some (.array (.object "java/lang/Object"))) rm_c_A_growB ε [.ref al] (X ++ va_pl L f) (GROWN ε X L f al md n cap d) NX := by
  refine CT.intro (by decide +kernel) (Nat.le_of_ble_eq_true rfl) ?_
  intro p9 e9 s9 m9 a9 bl9 me9 c9 ls Q9 hC hE hP hD hl hQ
  have hx := hC.1
  have hb := hC.2.1
  have hK := hE.K
  have hS : WS ε s9.heap s9.heap [] := va_S.rf
  have hl : lv_has ls 1 [(0, .ref al)] := hl
  obtain ⟨H, hH⟩ : ∃ H, H = s9.heap := ⟨_, rfl⟩
  obtain ⟨locs, hlo⟩ : ∃ z : List Loc, z = [] := ⟨_, rfl⟩
  rw [← hH] at hP ⊢
  have hS : WS ε s9.heap H locs := by rw [hH, hlo]; exact hS
  rw [← hlo]
  clear hH hlo
  refine lv_aload_n (pc := 0) hx hb dJx4a65c_grow_d5877_0 rfl (lv_at hl 0 rfl) ?_
  refine lv_aload_n (pc := 1) hx hb dJx4a65c_grow_d5877_1 rfl (lv_at hl 0 rfl) ?_
  refine r_get (pc := 2) hC hK hP (in_pl hal hfa) (hc := rfl) (fun w h => wt_2 w h) 2 (by decide) m_2_7 (fun _ h => h) (v := .int (iv n)) rfl dJx4a65c_grow_d5877_2 ?_
  refine lv_iconst (pc := 5) (v := iv 1) hx hb dJx4a65c_grow_d5877_5 rfl ?_
  refine r_iadd (pc := 6) (a := n) (b := 1) hx hb dJx4a65c_grow_d5877_6 ?_
  refine c_callV (pc := 7) (y := yJx4a65c_grow_92f84) (As := [.int (iv (n + 1))]) (rest := []) hC hE hP hD hS hl.1 (c_A_growIB l ε X L f al ed (md) (n) cap d hal hfa hed hfe hne ci r9 hc9 hcast hci hel (n + 1) (by omega) (by omega)) m_7_11 m_7_12 m_7_13 m_0_24 m_7_14 (in_pl hal hfa) rfl hd_yJx4a65c_grow_92f84 rfl ⟨⟨by decide, by decide⟩, by decide, by decide⟩ (Nat.le_of_ble_eq_true rfl) rfl dJx4a65c_grow_d5877_7 kxN (fun v ws1 H locs hq hP hD hS => ?_)
  obtain ⟨q1, g2, m3, hq1, hm3, hg2, hv_, hw_⟩ := hq
  rw [hw_] at hP hD
  rw [hv_]
  clear hv_ hw_
  dsimp only [Option.toList, List.cons_append, List.nil_append]
  replace hP : WP ε (X ++ va_pl (L ++ [q1]) (va_up (va_up f q1 (eO ε m3 g2)) al (.inr (0, [.int (iv md), .ref q1, .int (iv n)])))) H := hP
  replace hD : WD ε (X ++ va_pl (L ++ [q1]) (va_up (va_up f q1 (eO ε m3 g2)) al (.inr (0, [.int (iv md), .ref q1, .int (iv n)])))) := hD
  refine c_aret (pc := 10) hC (Or.inr ⟨_, rfl⟩) (Or.inr ⟨_, rfl⟩) hQ hP hD hS (by decide) (by decide) dJx4a65c_grow_d5877_10 ?_
  exact ⟨_, _, _, hq1, hm3, hg2, rfl, rfl⟩

abbrev rm_c_A_addTA : Room := { frames := 5, cells := 1, slots := 1000, locals := 220 }
set_option maxRecDepth 100000 in
set_option maxHeartbeats 4000000 in
theorem c_A_addTA (l : Launch) (ε : EV) (X : va_W) (L : List Nat) (f : Nat → va_E) (al : Nat) (md : Int) (d : Nat → Option Nat) (hal : al ∈ L) (hfa : f al = oAL md (ε.2.2.2 0) 0) (ci : Nat) (r9 : vw_C) (hc9 : vwCl[ci]? = some r9) (hcast : Cond.castable r9.1 nObj ∈ castW) (hci : ci ≠ 0) (x : Nat) (fs9 : List Value) (hxL : x ∈ L) (hfx : f x = .inr (ci, fs9)) (hxa : x ≠ al)  : CT l yJx4a65c_add_72be8 cJx4a65c_add_72be8 4 none rm_c_A_addTA ε [.ref al, .ref x, .ref ((ε.2.2.2 0)), .int (iv 0)] (X ++ va_pl L f) (fun v w => v = none ∧ ADDED ε X L f al al (md) 0 x d w) NX := by
  refine CT.intro (by decide +kernel) (Nat.le_of_ble_eq_true rfl) ?_
  intro p9 e9 s9 m9 a9 bl9 me9 c9 ls Q9 hC hE hP hD hl hQ
  have hx := hC.1
  have hb := hC.2.1
  have hK := hE.K
  have hS : WS ε s9.heap s9.heap [] := va_S.rf
  have hl : lv_has ls 4 [(0, .ref al), (1, .ref x), (2, .ref ((ε.2.2.2 0))), (3, .int (iv 0))] := hl
  obtain ⟨H, hH⟩ : ∃ H, H = s9.heap := ⟨_, rfl⟩
  obtain ⟨locs, hlo⟩ : ∃ z : List Loc, z = [] := ⟨_, rfl⟩
  rw [← hH] at hP ⊢
  have hS : WS ε s9.heap H locs := by rw [hH, hlo]; exact hS
  rw [← hlo]
  clear hH hlo
  refine lv_iload_n (pc := 0) hx hb dJx4a65c_add_72be8_0 rfl (lv_at hl 3 rfl) ?_
  refine lv_aload_n (pc := 1) hx hb dJx4a65c_add_72be8_1 rfl (lv_at hl 2 rfl) ?_
  refine r_alenT (pc := 2) hC hE hS dJx4a65c_add_72be8_2 ?_
  refine r_icmp_ne (pc := 3) (a := 0) (b := 0) hx hb dJx4a65c_add_72be8_3 (tgt := 11) (by decide) ⟨by omega, by omega⟩ ⟨by omega, by omega⟩ (fun c_3 => ?_) (fun c_3 => ?_)
  · exact absurd c_3 (by decide)
  · have c_3_ := c_3
    refine lv_aload_n (pc := 6) hx hb dJx4a65c_add_72be8_6 rfl (lv_at hl 0 rfl) ?_
    refine c_callV (pc := 7) (y := yJx4a65c_grow_d5877) (As := []) (rest := []) hC hE hP hD hS hl.1 (c_A_growA l ε X L f al (md) d hal hfa) m_7_7 m_7_8 m_7_9 m_0_24 m_7_10 (in_pl hal hfa) rfl hd_yJx4a65c_grow_d5877 rfl ⟨⟨by decide, by decide⟩, by decide, by decide⟩ (Nat.le_of_ble_eq_true rfl) rfl dJx4a65c_add_72be8_7 kxN (fun v ws1 H locs hq hP hD hS => ?_)
    obtain ⟨q1, g2, m3, hq1, hm3, hg2, hv_, hw_⟩ := hq
    rw [hw_] at hP hD
    rw [hv_]
    clear hv_ hw_
    dsimp only [Option.toList, List.cons_append, List.nil_append]
    replace hP : WP ε (X ++ va_pl (L ++ [q1]) (va_up (va_up f q1 (eO ε m3 g2)) al (.inr (0, [.int (iv md), .ref q1, .int (iv 0)])))) H := hP
    replace hD : WD ε (X ++ va_pl (L ++ [q1]) (va_up (va_up f q1 (eO ε m3 g2)) al (.inr (0, [.int (iv md), .ref q1, .int (iv 0)])))) := hD
    refine lv_astore_n (lv' := [(2, .ref q1), (0, .ref al), (1, .ref x), (3, .int (iv 0))]) (pc := 10) hx hb dJx4a65c_add_72be8_10 rfl hl (by decide) rfl (fun ls hl => ?_)
    refine lv_aload_n (pc := 11) hx hb dJx4a65c_add_72be8_11 rfl (lv_at hl 0 rfl) ?_
    refine lv_iload_n (pc := 12) hx hb dJx4a65c_add_72be8_12 rfl (lv_at hl 3 rfl) ?_
    refine lv_aload_n (pc := 13) hx hb dJx4a65c_add_72be8_13 rfl (lv_at hl 2 rfl) ?_
    refine p_aast (pc := 14) (z := (0 : Int)) hC hE hP hD hS (List.mem_append_right _ (List.mem_singleton.mpr rfl)) ((va_up_ne _ _ (fun hz : q1 = al => hq1 (hz.symm ▸ hal))).trans (va_up_self _ _ _)) (in_pl (List.mem_append_left _ hxL) ((va_up_ne _ _ hxa).trans ((va_up_ne _ _ (fun hz : x = q1 => hq1 (hz ▸ hxL))).trans hfx))) hc9 hcast ⟨by omega, by omega, by omega⟩ dJx4a65c_add_72be8_14 (fun H locs hP hD hS => ?_)
    replace hP : WP ε (X ++ va_pl (L ++ [q1]) (va_up (va_up (va_up f q1 (eO ε m3 g2)) al (.inr (0, [.int (iv md), .ref q1, .int (iv 0)]))) q1 (eO ε m3 (va_up g2 ((0 : Int)).toNat (some x))))) H := hP
    replace hD : WD ε (X ++ va_pl (L ++ [q1]) (va_up (va_up (va_up f q1 (eO ε m3 g2)) al (.inr (0, [.int (iv md), .ref q1, .int (iv 0)]))) q1 (eO ε m3 (va_up g2 ((0 : Int)).toNat (some x))))) := hD
    refine lv_aload_n (pc := 15) hx hb dJx4a65c_add_72be8_15 rfl (lv_at hl 1 rfl) ?_
    refine lv_iload_n (pc := 16) hx hb dJx4a65c_add_72be8_16 rfl (lv_at hl 3 rfl) ?_
    refine lv_iconst (pc := 17) (v := iv 1) hx hb dJx4a65c_add_72be8_17 rfl ?_
    refine r_iadd (pc := 18) (a := 0) (b := 1) hx hb dJx4a65c_add_72be8_18 ?_
    refine p_put (pc := 19) (ci := 0) (T := TJx4a65c) (N := 3) (fs := [.int (iv md), .ref q1, .int (iv 0)]) hC hK hP hD hS (List.mem_append_left _ hal) ((va_up_ne _ _ (fun hz : al = q1 => hq1 (hz ▸ hal))).trans (va_up_self _ _ _)) rfl (fun w h => wt_2 w h) tyJx4a65c tyJx4a65c_ok nmJx4a65c 2 (by decide) m_2_7 (fun _ h => h) rfl (v := .int (iv (0 + 1))) rfl rfl (Nat.le_of_ble_eq_true rfl) dJx4a65c_add_72be8_19 (fun H locs hP hD hS => ?_)
    replace hP : WP ε (X ++ va_pl (L ++ [q1]) (va_up (va_up (va_up (va_up f q1 (eO ε m3 g2)) al (.inr (0, [.int (iv md), .ref q1, .int (iv 0)]))) q1 (eO ε m3 (va_up g2 ((0 : Int)).toNat (some x)))) al (.inr (0, [.int (iv md), .ref q1, .int (iv (0 + 1))])))) H := hP
    replace hD : WD ε (X ++ va_pl (L ++ [q1]) (va_up (va_up (va_up (va_up f q1 (eO ε m3 g2)) al (.inr (0, [.int (iv md), .ref q1, .int (iv 0)]))) q1 (eO ε m3 (va_up g2 ((0 : Int)).toNat (some x)))) al (.inr (0, [.int (iv md), .ref q1, .int (iv (0 + 1))])))) := hD
    refine c_vret (pc := 22) hC hQ hP hD hS (by decide) (by decide) dJx4a65c_add_72be8_22 ?_
    exact ⟨rfl, _, _, q1, m3, _, Or.inr ⟨rfl, hq1⟩, ⟨(va_up_self _ _ _), ((va_up_ne _ _ (fun hz : q1 = al => hq1 (hz.symm ▸ hal))).trans (va_up_self _ _ _))⟩, fun b h1 h2 h3 => (fun hbq : b ≠ q1 => (va_up_ne _ _ h2).trans ((va_up_ne _ _ hbq).trans ((va_up_ne _ _ h2).trans (va_up_ne _ _ hbq)))) (fun hz : b = q1 => hq1 (hz ▸ h1)), ⟨by omega, by omega⟩, fun k h1 h2 => by omega, up_at, rfl⟩

abbrev rm_c_A_addTB : Room := { frames := 5, cells := 1, slots := 1000, locals := 220 }
set_option maxRecDepth 100000 in
set_option maxHeartbeats 4000000 in
theorem c_A_addTB (l : Launch) (ε : EV) (X : va_W) (L : List Nat) (f : Nat → va_E) (al ed : Nat) (md n : Int) (cap : Nat) (d : Nat → Option Nat) (hal : al ∈ L) (hfa : f al = oAL md ed n) (hed : ed ∈ L) (hfe : f ed = eO ε cap d) (hne : al ≠ ed) (ci : Nat) (r9 : vw_C) (hc9 : vwCl[ci]? = some r9) (hcast : Cond.castable r9.1 nObj ∈ castW) (hci : ci ≠ 0) (x : Nat) (fs9 : List Value) (hxL : x ∈ L) (hfx : f x = .inr (ci, fs9)) (hxa : x ≠ al) (hxe : x ≠ ed) (hn : 0 ≤ n ∧ n < cap) (hc6 : cap ≤ 900) : CT l yJx4a65c_add_72be8 cJx4a65c_add_72be8 4 none rm_c_A_addTB ε [.ref al, .ref x, .ref ed, .int (iv n)] (X ++ va_pl L f) (fun v w => v = none ∧ ADDED ε X L f al ed (md) n x d w) NX := by
  refine CT.intro (by decide +kernel) (Nat.le_of_ble_eq_true rfl) ?_
  intro p9 e9 s9 m9 a9 bl9 me9 c9 ls Q9 hC hE hP hD hl hQ
  have hx := hC.1
  have hb := hC.2.1
  have hK := hE.K
  have hS : WS ε s9.heap s9.heap [] := va_S.rf
  have hl : lv_has ls 4 [(0, .ref al), (1, .ref x), (2, .ref ed), (3, .int (iv n))] := hl
  obtain ⟨H, hH⟩ : ∃ H, H = s9.heap := ⟨_, rfl⟩
  obtain ⟨locs, hlo⟩ : ∃ z : List Loc, z = [] := ⟨_, rfl⟩
  rw [← hH] at hP ⊢
  have hS : WS ε s9.heap H locs := by rw [hH, hlo]; exact hS
  rw [← hlo]
  clear hH hlo
  refine lv_iload_n (pc := 0) hx hb dJx4a65c_add_72be8_0 rfl (lv_at hl 3 rfl) ?_
  refine lv_aload_n (pc := 1) hx hb dJx4a65c_add_72be8_1 rfl (lv_at hl 2 rfl) ?_
  refine r_alenO (pc := 2) hC hK hP (in_pl hed hfe) dJx4a65c_add_72be8_2 ?_
  refine r_icmp_ne (pc := 3) (a := n) (b := (cap : Int)) hx hb dJx4a65c_add_72be8_3 (tgt := 11) (by decide) ⟨by omega, by omega⟩ ⟨by omega, by omega⟩ (fun c_3 => ?_) (fun c_3 => ?_)
  · have c_3_ := c_3
    refine lv_aload_n (pc := 11) hx hb dJx4a65c_add_72be8_11 rfl (lv_at hl 2 rfl) ?_
    refine lv_iload_n (pc := 12) hx hb dJx4a65c_add_72be8_12 rfl (lv_at hl 3 rfl) ?_
    refine lv_aload_n (pc := 13) hx hb dJx4a65c_add_72be8_13 rfl (lv_at hl 1 rfl) ?_
    refine p_aast (pc := 14) (z := n) hC hE hP hD hS hed hfe (in_pl hxL hfx) hc9 hcast ⟨by omega, by omega, by omega⟩ dJx4a65c_add_72be8_14 (fun H locs hP hD hS => ?_)
    replace hP : WP ε (X ++ va_pl L (va_up f ed (eO ε cap (va_up d n.toNat (some x))))) H := hP
    replace hD : WD ε (X ++ va_pl L (va_up f ed (eO ε cap (va_up d n.toNat (some x))))) := hD
    refine lv_aload_n (pc := 15) hx hb dJx4a65c_add_72be8_15 rfl (lv_at hl 0 rfl) ?_
    refine lv_iload_n (pc := 16) hx hb dJx4a65c_add_72be8_16 rfl (lv_at hl 3 rfl) ?_
    refine lv_iconst (pc := 17) (v := iv 1) hx hb dJx4a65c_add_72be8_17 rfl ?_
    refine r_iadd (pc := 18) (a := n) (b := 1) hx hb dJx4a65c_add_72be8_18 ?_
    refine p_put (pc := 19) (ci := 0) (T := TJx4a65c) (N := 3) (fs := [.int (iv md), .ref ed, .int (iv n)]) hC hK hP hD hS hal ((va_up_ne _ _ hne).trans hfa) rfl (fun w h => wt_2 w h) tyJx4a65c tyJx4a65c_ok nmJx4a65c 2 (by decide) m_2_7 (fun _ h => h) rfl (v := .int (iv (n + 1))) rfl rfl (Nat.le_of_ble_eq_true rfl) dJx4a65c_add_72be8_19 (fun H locs hP hD hS => ?_)
    replace hP : WP ε (X ++ va_pl L (va_up (va_up f ed (eO ε cap (va_up d n.toNat (some x)))) al (.inr (0, [.int (iv md), .ref ed, .int (iv (n + 1))])))) H := hP
    replace hD : WD ε (X ++ va_pl L (va_up (va_up f ed (eO ε cap (va_up d n.toNat (some x)))) al (.inr (0, [.int (iv md), .ref ed, .int (iv (n + 1))])))) := hD
    refine c_vret (pc := 22) hC hQ hP hD hS (by decide) (by decide) dJx4a65c_add_72be8_22 ?_
    exact ⟨rfl, _, _, ed, cap, _, Or.inl ⟨rfl, rfl, hed⟩, ⟨(va_up_self _ _ _), ((va_up_ne _ _ (Ne.symm hne)).trans (va_up_self _ _ _))⟩, fun b h1 h2 h3 => (va_up_ne _ _ h2).trans (va_up_ne _ _ h3), ⟨by omega, by omega⟩, fun k h1 h2 => up_no rfl h1 h2, up_at, rfl⟩
  · have c_3_ := c_3
    omega

abbrev rm_c_A_addTC : Room := { frames := 5, cells := 1, slots := 1000, locals := 220 }
set_option maxRecDepth 100000 in
set_option maxHeartbeats 4000000 in
theorem c_A_addTC (l : Launch) (ε : EV) (X : va_W) (L : List Nat) (f : Nat → va_E) (al ed : Nat) (md n : Int) (cap : Nat) (d : Nat → Option Nat) (hal : al ∈ L) (hfa : f al = oAL md ed n) (hed : ed ∈ L) (hfe : f ed = eO ε cap d) (hne : al ≠ ed) (ci : Nat) (r9 : vw_C) (hc9 : vwCl[ci]? = some r9) (hcast : Cond.castable r9.1 nObj ∈ castW) (hci : ci ≠ 0) (hel : ∀ i : Nat, (i : Int) < cap → ∀ y : Nat, d i = some y → y ∈ L ∧ ∃ fs, f y = .inr (ci, fs)) (x : Nat) (fs9 : List Value) (hxL : x ∈ L) (hfx : f x = .inr (ci, fs9)) (hxa : x ≠ al) (hxe : x ≠ ed) (hn : n = cap) (hc6 : 1 ≤ cap ∧ cap ≤ 600) : CT l yJx4a65c_add_72be8 cJx4a65c_add_72be8 4 none rm_c_A_addTC ε [.ref al, .ref x, .ref ed, .int (iv n)] (X ++ va_pl L f) (fun v w => v = none ∧ ADDED ε X L f al ed (md) n x d w) NX := by
  refine CT.intro (by decide +kernel) (Nat.le_of_ble_eq_true rfl) ?_
  intro p9 e9 s9 m9 a9 bl9 me9 c9 ls Q9 hC hE hP hD hl hQ
  have hx := hC.1
  have hb := hC.2.1
  have hK := hE.K
  have hS : WS ε s9.heap s9.heap [] := va_S.rf
  have hl : lv_has ls 4 [(0, .ref al), (1, .ref x), (2, .ref ed), (3, .int (iv n))] := hl
  obtain ⟨H, hH⟩ : ∃ H, H = s9.heap := ⟨_, rfl⟩
  obtain ⟨locs, hlo⟩ : ∃ z : List Loc, z = [] := ⟨_, rfl⟩
  rw [← hH] at hP ⊢
  have hS : WS ε s9.heap H locs := by rw [hH, hlo]; exact hS
  rw [← hlo]
  clear hH hlo
  refine lv_iload_n (pc := 0) hx hb dJx4a65c_add_72be8_0 rfl (lv_at hl 3 rfl) ?_
  refine lv_aload_n (pc := 1) hx hb dJx4a65c_add_72be8_1 rfl (lv_at hl 2 rfl) ?_
  refine r_alenO (pc := 2) hC hK hP (in_pl hed hfe) dJx4a65c_add_72be8_2 ?_
  refine r_icmp_ne (pc := 3) (a := n) (b := (cap : Int)) hx hb dJx4a65c_add_72be8_3 (tgt := 11) (by decide) ⟨by omega, by omega⟩ ⟨by omega, by omega⟩ (fun c_3 => ?_) (fun c_3 => ?_)
  · have c_3_ := c_3
    omega
  · have c_3_ := c_3
    refine lv_aload_n (pc := 6) hx hb dJx4a65c_add_72be8_6 rfl (lv_at hl 0 rfl) ?_
    refine c_callV (pc := 7) (y := yJx4a65c_grow_d5877) (As := []) (rest := []) hC hE hP hD hS hl.1 (c_A_growB l ε X L f al ed (md) (n) cap d hal hfa hed hfe hne ci r9 hc9 hcast hci hel (by omega) (by omega)) m_7_7 m_7_8 m_7_9 m_0_24 m_7_10 (in_pl hal hfa) rfl hd_yJx4a65c_grow_d5877 rfl ⟨⟨by decide, by decide⟩, by decide, by decide⟩ (Nat.le_of_ble_eq_true rfl) rfl dJx4a65c_add_72be8_7 kxN (fun v ws1 H locs hq hP hD hS => ?_)
    obtain ⟨q1, g2, m3, hq1, hm3, hg2, hv_, hw_⟩ := hq
    rw [hw_] at hP hD
    rw [hv_]
    clear hv_ hw_
    dsimp only [Option.toList, List.cons_append, List.nil_append]
    replace hP : WP ε (X ++ va_pl (L ++ [q1]) (va_up (va_up f q1 (eO ε m3 g2)) al (.inr (0, [.int (iv md), .ref q1, .int (iv n)])))) H := hP
    replace hD : WD ε (X ++ va_pl (L ++ [q1]) (va_up (va_up f q1 (eO ε m3 g2)) al (.inr (0, [.int (iv md), .ref q1, .int (iv n)])))) := hD
    refine lv_astore_n (lv' := [(2, .ref q1), (0, .ref al), (1, .ref x), (3, .int (iv n))]) (pc := 10) hx hb dJx4a65c_add_72be8_10 rfl hl (by decide) rfl (fun ls hl => ?_)
    refine lv_aload_n (pc := 11) hx hb dJx4a65c_add_72be8_11 rfl (lv_at hl 0 rfl) ?_
    refine lv_iload_n (pc := 12) hx hb dJx4a65c_add_72be8_12 rfl (lv_at hl 3 rfl) ?_
    refine lv_aload_n (pc := 13) hx hb dJx4a65c_add_72be8_13 rfl (lv_at hl 2 rfl) ?_
    refine p_aast (pc := 14) (z := n) hC hE hP hD hS (List.mem_append_right _ (List.mem_singleton.mpr rfl)) ((va_up_ne _ _ (fun hz : q1 = al => hq1 (hz.symm ▸ hal))).trans (va_up_self _ _ _)) (in_pl (List.mem_append_left _ hxL) ((va_up_ne _ _ hxa).trans ((va_up_ne _ _ (fun hz : x = q1 => hq1 (hz ▸ hxL))).trans hfx))) hc9 hcast ⟨by omega, by omega, by omega⟩ dJx4a65c_add_72be8_14 (fun H locs hP hD hS => ?_)
    replace hP : WP ε (X ++ va_pl (L ++ [q1]) (va_up (va_up (va_up f q1 (eO ε m3 g2)) al (.inr (0, [.int (iv md), .ref q1, .int (iv n)]))) q1 (eO ε m3 (va_up g2 n.toNat (some x))))) H := hP
    replace hD : WD ε (X ++ va_pl (L ++ [q1]) (va_up (va_up (va_up f q1 (eO ε m3 g2)) al (.inr (0, [.int (iv md), .ref q1, .int (iv n)]))) q1 (eO ε m3 (va_up g2 n.toNat (some x))))) := hD
    refine lv_aload_n (pc := 15) hx hb dJx4a65c_add_72be8_15 rfl (lv_at hl 1 rfl) ?_
    refine lv_iload_n (pc := 16) hx hb dJx4a65c_add_72be8_16 rfl (lv_at hl 3 rfl) ?_
    refine lv_iconst (pc := 17) (v := iv 1) hx hb dJx4a65c_add_72be8_17 rfl ?_
    refine r_iadd (pc := 18) (a := n) (b := 1) hx hb dJx4a65c_add_72be8_18 ?_
    refine p_put (pc := 19) (ci := 0) (T := TJx4a65c) (N := 3) (fs := [.int (iv md), .ref q1, .int (iv n)]) hC hK hP hD hS (List.mem_append_left _ hal) ((va_up_ne _ _ (fun hz : al = q1 => hq1 (hz ▸ hal))).trans (va_up_self _ _ _)) rfl (fun w h => wt_2 w h) tyJx4a65c tyJx4a65c_ok nmJx4a65c 2 (by decide) m_2_7 (fun _ h => h) rfl (v := .int (iv (n + 1))) rfl rfl (Nat.le_of_ble_eq_true rfl) dJx4a65c_add_72be8_19 (fun H locs hP hD hS => ?_)
    replace hP : WP ε (X ++ va_pl (L ++ [q1]) (va_up (va_up (va_up (va_up f q1 (eO ε m3 g2)) al (.inr (0, [.int (iv md), .ref q1, .int (iv n)]))) q1 (eO ε m3 (va_up g2 n.toNat (some x)))) al (.inr (0, [.int (iv md), .ref q1, .int (iv (n + 1))])))) H := hP
    replace hD : WD ε (X ++ va_pl (L ++ [q1]) (va_up (va_up (va_up (va_up f q1 (eO ε m3 g2)) al (.inr (0, [.int (iv md), .ref q1, .int (iv n)]))) q1 (eO ε m3 (va_up g2 n.toNat (some x)))) al (.inr (0, [.int (iv md), .ref q1, .int (iv (n + 1))])))) := hD
    refine c_vret (pc := 22) hC hQ hP hD hS (by decide) (by decide) dJx4a65c_add_72be8_22 ?_
    exact ⟨rfl, _, _, q1, m3, _, Or.inr ⟨rfl, hq1⟩, ⟨(va_up_self _ _ _), ((va_up_ne _ _ (fun hz : q1 = al => hq1 (hz.symm ▸ hal))).trans (va_up_self _ _ _))⟩, fun b h1 h2 h3 => (fun hbq : b ≠ q1 => (va_up_ne _ _ h2).trans ((va_up_ne _ _ hbq).trans ((va_up_ne _ _ h2).trans (va_up_ne _ _ hbq)))) (fun hz : b = q1 => hq1 (hz ▸ h1)), ⟨by omega, by omega⟩, fun k h1 h2 => (up_no rfl h1 h2).trans (hg2 k h1 (by omega)), up_at, rfl⟩

abbrev rm_c_A_addA : Room := { frames := 6, cells := 1, slots := 1000, locals := 260 }
set_option maxRecDepth 100000 in
set_option maxHeartbeats 4000000 in
theorem c_A_addA (l : Launch) (ε : EV) (X : va_W) (L : List Nat) (f : Nat → va_E) (al : Nat) (md : Int) (d : Nat → Option Nat) (hal : al ∈ L) (hfa : f al = oAL md (ε.2.2.2 0) 0) (ci : Nat) (r9 : vw_C) (hc9 : vwCl[ci]? = some r9) (hcast : Cond.castable r9.1 nObj ∈ castW) (hci : ci ≠ 0) (x : Nat) (fs9 : List Value) (hxL : x ∈ L) (hfx : f x = .inr (ci, fs9)) (hxa : x ≠ al)  : CT l yJx4a65c_add_9ea2d cJx4a65c_add_9ea2d 2 (some .boolean) rm_c_A_addA ε [.ref al, .ref x] (X ++ va_pl L f) (fun v w => v = some (.int (iv 1)) ∧ ADDED ε X L f al al (md + 1) 0 x d w) NX := by
  refine CT.intro (by decide +kernel) (Nat.le_of_ble_eq_true rfl) ?_
  intro p9 e9 s9 m9 a9 bl9 me9 c9 ls Q9 hC hE hP hD hl hQ
  have hx := hC.1
  have hb := hC.2.1
  have hK := hE.K
  have hS : WS ε s9.heap s9.heap [] := va_S.rf
  have hl : lv_has ls 2 [(0, .ref al), (1, .ref x)] := hl
  obtain ⟨H, hH⟩ : ∃ H, H = s9.heap := ⟨_, rfl⟩
  obtain ⟨locs, hlo⟩ : ∃ z : List Loc, z = [] := ⟨_, rfl⟩
  rw [← hH] at hP ⊢
  have hS : WS ε s9.heap H locs := by rw [hH, hlo]; exact hS
  rw [← hlo]
  clear hH hlo
  refine lv_aload_n (pc := 0) hx hb dJx4a65c_add_9ea2d_0 rfl (lv_at hl 0 rfl) ?_
  refine lv_dup (pc := 1) hx hb dJx4a65c_add_9ea2d_1 rfl ?_
  refine r_get (pc := 2) hC hK hP (in_pl hal hfa) (hc := rfl) (fun w h => wt_2 w h) 0 (by decide) m_7_1 (u_same (hC.2.2.2.2.1 _ m_7_2)) (v := .int (iv md)) rfl dJx4a65c_add_9ea2d_2 ?_
  refine lv_iconst (pc := 5) (v := iv 1) hx hb dJx4a65c_add_9ea2d_5 rfl ?_
  refine r_iadd (pc := 6) (a := md) (b := 1) hx hb dJx4a65c_add_9ea2d_6 ?_
  refine p_put (pc := 7) (ci := 0) (T := TJx4a65c) (N := 3) (fs := [.int (iv md), .ref ((ε.2.2.2 0)), .int (iv 0)]) hC hK hP hD hS hal hfa rfl (fun w h => wt_2 w h) tyJx4a65c tyJx4a65c_ok nmJx4a65c 0 (by decide) m_7_1 (u_same (hC.2.2.2.2.1 _ m_7_2)) rfl (v := .int (iv (md + 1))) rfl rfl (Nat.le_of_ble_eq_true rfl) dJx4a65c_add_9ea2d_7 (fun H locs hP hD hS => ?_)
  replace hP : WP ε (X ++ va_pl L (va_up f al (.inr (0, [.int (iv (md + 1)), .ref ((ε.2.2.2 0)), .int (iv 0)])))) H := hP
  replace hD : WD ε (X ++ va_pl L (va_up f al (.inr (0, [.int (iv (md + 1)), .ref ((ε.2.2.2 0)), .int (iv 0)])))) := hD
  refine lv_aload_n (pc := 10) hx hb dJx4a65c_add_9ea2d_10 rfl (lv_at hl 0 rfl) ?_
  refine lv_aload_n (pc := 11) hx hb dJx4a65c_add_9ea2d_11 rfl (lv_at hl 1 rfl) ?_
  refine lv_aload_n (pc := 12) hx hb dJx4a65c_add_9ea2d_12 rfl (lv_at hl 0 rfl) ?_
  refine r_get (pc := 13) hC hK hP (in_pl hal (va_up_self _ _ _)) (hc := rfl) (fun w h => wt_2 w h) 1 (by decide) m_1_8 (fun _ h => h) (v := .ref ((ε.2.2.2 0))) rfl dJx4a65c_add_9ea2d_13 ?_
  refine lv_aload_n (pc := 16) hx hb dJx4a65c_add_9ea2d_16 rfl (lv_at hl 0 rfl) ?_
  refine r_get (pc := 17) hC hK hP (in_pl hal (va_up_self _ _ _)) (hc := rfl) (fun w h => wt_2 w h) 2 (by decide) m_2_7 (fun _ h => h) (v := .int (iv 0)) rfl dJx4a65c_add_9ea2d_17 ?_
  refine c_callV (pc := 20) (y := yJx4a65c_add_72be8) (As := [.ref x, .ref ((ε.2.2.2 0)), .int (iv 0)]) (rest := []) hC hE hP hD hS hl.1 (c_A_addTA l ε X L (va_up f al (.inr (0, [.int (iv (md + 1)), .ref ((ε.2.2.2 0)), .int (iv 0)]))) al (md + 1) d hal (va_up_self _ _ _) ci r9 hc9 hcast hci x fs9 hxL ((va_up_ne _ _ hxa).trans hfx) hxa) m_7_3 m_7_4 m_7_5 m_0_24 m_7_6 (in_pl hal (va_up_self _ _ _)) rfl hd_yJx4a65c_add_72be8 rfl ⟨⟨by decide, by decide⟩, by decide, by decide⟩ (Nat.le_of_ble_eq_true rfl) rfl dJx4a65c_add_9ea2d_20 kxN (fun v ws1 H locs hq hP hD hS => ?_)
  obtain ⟨hv_, ad1⟩ := hq
  rw [hv_]
  clear hv_
  dsimp only [Option.toList, List.cons_append, List.nil_append]
  refine lv_iconst (pc := 23) (v := iv 1) hx hb dJx4a65c_add_9ea2d_23 rfl ?_
  refine c_zret (pc := 24) hC hQ hP hD hS (by decide) (by decide) dJx4a65c_add_9ea2d_24 nz_1 ?_
  exact ⟨rfl, ad1.up⟩

abbrev rm_c_A_addB : Room := { frames := 6, cells := 1, slots := 1000, locals := 260 }
set_option maxRecDepth 100000 in
set_option maxHeartbeats 4000000 in
theorem c_A_addB (l : Launch) (ε : EV) (X : va_W) (L : List Nat) (f : Nat → va_E) (al ed : Nat) (md n : Int) (cap : Nat) (d : Nat → Option Nat) (hal : al ∈ L) (hfa : f al = oAL md ed n) (hed : ed ∈ L) (hfe : f ed = eO ε cap d) (hne : al ≠ ed) (ci : Nat) (r9 : vw_C) (hc9 : vwCl[ci]? = some r9) (hcast : Cond.castable r9.1 nObj ∈ castW) (hci : ci ≠ 0) (x : Nat) (fs9 : List Value) (hxL : x ∈ L) (hfx : f x = .inr (ci, fs9)) (hxa : x ≠ al) (hxe : x ≠ ed) (hn : 0 ≤ n ∧ n < cap) (hc6 : cap ≤ 900) : CT l yJx4a65c_add_9ea2d cJx4a65c_add_9ea2d 2 (some .boolean) rm_c_A_addB ε [.ref al, .ref x] (X ++ va_pl L f) (fun v w => v = some (.int (iv 1)) ∧ ADDED ε X L f al ed (md + 1) n x d w) NX := by
  refine CT.intro (by decide +kernel) (Nat.le_of_ble_eq_true rfl) ?_
  intro p9 e9 s9 m9 a9 bl9 me9 c9 ls Q9 hC hE hP hD hl hQ
  have hx := hC.1
  have hb := hC.2.1
  have hK := hE.K
  have hS : WS ε s9.heap s9.heap [] := va_S.rf
  have hl : lv_has ls 2 [(0, .ref al), (1, .ref x)] := hl
  obtain ⟨H, hH⟩ : ∃ H, H = s9.heap := ⟨_, rfl⟩
  obtain ⟨locs, hlo⟩ : ∃ z : List Loc, z = [] := ⟨_, rfl⟩
  rw [← hH] at hP ⊢
  have hS : WS ε s9.heap H locs := by rw [hH, hlo]; exact hS
  rw [← hlo]
  clear hH hlo
  refine lv_aload_n (pc := 0) hx hb dJx4a65c_add_9ea2d_0 rfl (lv_at hl 0 rfl) ?_
  refine lv_dup (pc := 1) hx hb dJx4a65c_add_9ea2d_1 rfl ?_
  refine r_get (pc := 2) hC hK hP (in_pl hal hfa) (hc := rfl) (fun w h => wt_2 w h) 0 (by decide) m_7_1 (u_same (hC.2.2.2.2.1 _ m_7_2)) (v := .int (iv md)) rfl dJx4a65c_add_9ea2d_2 ?_
  refine lv_iconst (pc := 5) (v := iv 1) hx hb dJx4a65c_add_9ea2d_5 rfl ?_
  refine r_iadd (pc := 6) (a := md) (b := 1) hx hb dJx4a65c_add_9ea2d_6 ?_
  refine p_put (pc := 7) (ci := 0) (T := TJx4a65c) (N := 3) (fs := [.int (iv md), .ref ed, .int (iv n)]) hC hK hP hD hS hal hfa rfl (fun w h => wt_2 w h) tyJx4a65c tyJx4a65c_ok nmJx4a65c 0 (by decide) m_7_1 (u_same (hC.2.2.2.2.1 _ m_7_2)) rfl (v := .int (iv (md + 1))) rfl rfl (Nat.le_of_ble_eq_true rfl) dJx4a65c_add_9ea2d_7 (fun H locs hP hD hS => ?_)
  replace hP : WP ε (X ++ va_pl L (va_up f al (.inr (0, [.int (iv (md + 1)), .ref ed, .int (iv n)])))) H := hP
  replace hD : WD ε (X ++ va_pl L (va_up f al (.inr (0, [.int (iv (md + 1)), .ref ed, .int (iv n)])))) := hD
  refine lv_aload_n (pc := 10) hx hb dJx4a65c_add_9ea2d_10 rfl (lv_at hl 0 rfl) ?_
  refine lv_aload_n (pc := 11) hx hb dJx4a65c_add_9ea2d_11 rfl (lv_at hl 1 rfl) ?_
  refine lv_aload_n (pc := 12) hx hb dJx4a65c_add_9ea2d_12 rfl (lv_at hl 0 rfl) ?_
  refine r_get (pc := 13) hC hK hP (in_pl hal (va_up_self _ _ _)) (hc := rfl) (fun w h => wt_2 w h) 1 (by decide) m_1_8 (fun _ h => h) (v := .ref ed) rfl dJx4a65c_add_9ea2d_13 ?_
  refine lv_aload_n (pc := 16) hx hb dJx4a65c_add_9ea2d_16 rfl (lv_at hl 0 rfl) ?_
  refine r_get (pc := 17) hC hK hP (in_pl hal (va_up_self _ _ _)) (hc := rfl) (fun w h => wt_2 w h) 2 (by decide) m_2_7 (fun _ h => h) (v := .int (iv n)) rfl dJx4a65c_add_9ea2d_17 ?_
  refine c_callV (pc := 20) (y := yJx4a65c_add_72be8) (As := [.ref x, .ref ed, .int (iv n)]) (rest := []) hC hE hP hD hS hl.1 (c_A_addTB l ε X L (va_up f al (.inr (0, [.int (iv (md + 1)), .ref ed, .int (iv n)]))) al ed (md + 1) (n) cap d hal (va_up_self _ _ _) hed ((va_up_ne _ _ (Ne.symm hne)).trans hfe) hne ci r9 hc9 hcast hci x fs9 hxL ((va_up_ne _ _ hxa).trans hfx) hxa hxe (by omega) (by omega)) m_7_3 m_7_4 m_7_5 m_0_24 m_7_6 (in_pl hal (va_up_self _ _ _)) rfl hd_yJx4a65c_add_72be8 rfl ⟨⟨by decide, by decide⟩, by decide, by decide⟩ (Nat.le_of_ble_eq_true rfl) rfl dJx4a65c_add_9ea2d_20 kxN (fun v ws1 H locs hq hP hD hS => ?_)
  obtain ⟨hv_, ad1⟩ := hq
  rw [hv_]
  clear hv_
  dsimp only [Option.toList, List.cons_append, List.nil_append]
  refine lv_iconst (pc := 23) (v := iv 1) hx hb dJx4a65c_add_9ea2d_23 rfl ?_
  refine c_zret (pc := 24) hC hQ hP hD hS (by decide) (by decide) dJx4a65c_add_9ea2d_24 nz_1 ?_
  exact ⟨rfl, ad1.up⟩

abbrev rm_c_A_addC : Room := { frames := 6, cells := 1, slots := 1000, locals := 260 }
set_option maxRecDepth 100000 in
set_option maxHeartbeats 4000000 in
theorem c_A_addC (l : Launch) (ε : EV) (X : va_W) (L : List Nat) (f : Nat → va_E) (al ed : Nat) (md n : Int) (cap : Nat) (d : Nat → Option Nat) (hal : al ∈ L) (hfa : f al = oAL md ed n) (hed : ed ∈ L) (hfe : f ed = eO ε cap d) (hne : al ≠ ed) (ci : Nat) (r9 : vw_C) (hc9 : vwCl[ci]? = some r9) (hcast : Cond.castable r9.1 nObj ∈ castW) (hci : ci ≠ 0) (hel : ∀ i : Nat, (i : Int) < cap → ∀ y : Nat, d i = some y → y ∈ L ∧ ∃ fs, f y = .inr (ci, fs)) (x : Nat) (fs9 : List Value) (hxL : x ∈ L) (hfx : f x = .inr (ci, fs9)) (hxa : x ≠ al) (hxe : x ≠ ed) (hn : n = cap) (hc6 : 1 ≤ cap ∧ cap ≤ 600) : CT l yJx4a65c_add_9ea2d cJx4a65c_add_9ea2d 2 (some .boolean) rm_c_A_addC ε [.ref al, .ref x] (X ++ va_pl L f) (fun v w => v = some (.int (iv 1)) ∧ ADDED ε X L f al ed (md + 1) n x d w) NX := by
  refine CT.intro (by decide +kernel) (Nat.le_of_ble_eq_true rfl) ?_
  intro p9 e9 s9 m9 a9 bl9 me9 c9 ls Q9 hC hE hP hD hl hQ
  have hx := hC.1
  have hb := hC.2.1
  have hK := hE.K
  have hS : WS ε s9.heap s9.heap [] := va_S.rf
  have hl : lv_has ls 2 [(0, .ref al), (1, .ref x)] := hl
  obtain ⟨H, hH⟩ : ∃ H, H = s9.heap := ⟨_, rfl⟩
  obtain ⟨locs, hlo⟩ : ∃ z : List Loc, z = [] := ⟨_, rfl⟩
  rw [← hH] at hP ⊢
  have hS : WS ε s9.heap H locs := by rw [hH, hlo]; exact hS
  rw [← hlo]
  clear hH hlo
  refine lv_aload_n (pc := 0) hx hb dJx4a65c_add_9ea2d_0 rfl (lv_at hl 0 rfl) ?_
  refine lv_dup (pc := 1) hx hb dJx4a65c_add_9ea2d_1 rfl ?_
  refine r_get (pc := 2) hC hK hP (in_pl hal hfa) (hc := rfl) (fun w h => wt_2 w h) 0 (by decide) m_7_1 (u_same (hC.2.2.2.2.1 _ m_7_2)) (v := .int (iv md)) rfl dJx4a65c_add_9ea2d_2 ?_
  refine lv_iconst (pc := 5) (v := iv 1) hx hb dJx4a65c_add_9ea2d_5 rfl ?_
  refine r_iadd (pc := 6) (a := md) (b := 1) hx hb dJx4a65c_add_9ea2d_6 ?_
  refine p_put (pc := 7) (ci := 0) (T := TJx4a65c) (N := 3) (fs := [.int (iv md), .ref ed, .int (iv n)]) hC hK hP hD hS hal hfa rfl (fun w h => wt_2 w h) tyJx4a65c tyJx4a65c_ok nmJx4a65c 0 (by decide) m_7_1 (u_same (hC.2.2.2.2.1 _ m_7_2)) rfl (v := .int (iv (md + 1))) rfl rfl (Nat.le_of_ble_eq_true rfl) dJx4a65c_add_9ea2d_7 (fun H locs hP hD hS => ?_)
  replace hP : WP ε (X ++ va_pl L (va_up f al (.inr (0, [.int (iv (md + 1)), .ref ed, .int (iv n)])))) H := hP
  replace hD : WD ε (X ++ va_pl L (va_up f al (.inr (0, [.int (iv (md + 1)), .ref ed, .int (iv n)])))) := hD
  have hel2 : ∀ i : Nat, (i : Int) < cap → ∀ y : Nat, d i = some y → y ∈ L ∧ ∃ fs, va_up f al (oAL (md + 1) ed n) y = .inr (ci, fs) := fun i hi y hy => by obtain ⟨h1, fs, h2⟩ := hel i hi y hy; exact ⟨h1, fs, (va_up_ne _ _ (fun hz => by rw [hz, hfa] at h2; injection h2 with h3; injection h3 with h4 _; exact hci h4.symm)).trans h2⟩
  refine lv_aload_n (pc := 10) hx hb dJx4a65c_add_9ea2d_10 rfl (lv_at hl 0 rfl) ?_
  refine lv_aload_n (pc := 11) hx hb dJx4a65c_add_9ea2d_11 rfl (lv_at hl 1 rfl) ?_
  refine lv_aload_n (pc := 12) hx hb dJx4a65c_add_9ea2d_12 rfl (lv_at hl 0 rfl) ?_
  refine r_get (pc := 13) hC hK hP (in_pl hal (va_up_self _ _ _)) (hc := rfl) (fun w h => wt_2 w h) 1 (by decide) m_1_8 (fun _ h => h) (v := .ref ed) rfl dJx4a65c_add_9ea2d_13 ?_
  refine lv_aload_n (pc := 16) hx hb dJx4a65c_add_9ea2d_16 rfl (lv_at hl 0 rfl) ?_
  refine r_get (pc := 17) hC hK hP (in_pl hal (va_up_self _ _ _)) (hc := rfl) (fun w h => wt_2 w h) 2 (by decide) m_2_7 (fun _ h => h) (v := .int (iv n)) rfl dJx4a65c_add_9ea2d_17 ?_
  refine c_callV (pc := 20) (y := yJx4a65c_add_72be8) (As := [.ref x, .ref ed, .int (iv n)]) (rest := []) hC hE hP hD hS hl.1 (c_A_addTC l ε X L (va_up f al (.inr (0, [.int (iv (md + 1)), .ref ed, .int (iv n)]))) al ed (md + 1) (n) cap d hal (va_up_self _ _ _) hed ((va_up_ne _ _ (Ne.symm hne)).trans hfe) hne ci r9 hc9 hcast hci hel2 x fs9 hxL ((va_up_ne _ _ hxa).trans hfx) hxa hxe (by omega) (by omega)) m_7_3 m_7_4 m_7_5 m_0_24 m_7_6 (in_pl hal (va_up_self _ _ _)) rfl hd_yJx4a65c_add_72be8 rfl ⟨⟨by decide, by decide⟩, by decide, by decide⟩ (Nat.le_of_ble_eq_true rfl) rfl dJx4a65c_add_9ea2d_20 kxN (fun v ws1 H locs hq hP hD hS => ?_)
  obtain ⟨hv_, ad1⟩ := hq
  rw [hv_]
  clear hv_
  dsimp only [Option.toList, List.cons_append, List.nil_append]
  refine lv_iconst (pc := 23) (v := iv 1) hx hb dJx4a65c_add_9ea2d_23 rfl ?_
  refine c_zret (pc := 24) hC hQ hP hD hS (by decide) (by decide) dJx4a65c_add_9ea2d_24 nz_1 ?_
  exact ⟨rfl, ad1.up⟩
