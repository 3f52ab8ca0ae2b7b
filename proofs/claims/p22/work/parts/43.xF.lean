abbrev rm_c_J_fill : Room := { frames := 0, cells := 0, slots := 0, locals := 0 }
set_option maxRecDepth 100000 in
set_option maxHeartbeats 4000000 in
theorem c_J_fill (l : Launch) (ε : EV) (X : va_W) (L : List Nat) (f : Nat → va_E) (a N : Nat) (v9 : Int) (g : Nat → Int) (ha : a ∈ L) (hf : f a = eI ε N g) (hN : N < 100000) : CT l yJ7_fill_53178 cJ7_fill_53178 4 none rm_c_J_fill ε [.ref a, .int (iv v9)] (X ++ va_pl L f) (fun v w => v = none ∧ w = X ++ va_pl L (va_up f a (eI ε N (FLL g v9 N)))) NX := by
  refine CT.intro (by decide +kernel) (Nat.le_of_ble_eq_true rfl) ?_
  intro p9 e9 s9 m9 a9 bl9 me9 c9 ls Q9 hC hE hP hD hl hQ
  have hx := hC.1
  have hb := hC.2.1
  have hK := hE.K
  have hS : WS ε s9.heap s9.heap [] := va_S.rf
  have hl : lv_has ls 4 [(0, .ref a), (1, .int (iv v9))] := hl
  obtain ⟨H, hH⟩ : ∃ H, H = s9.heap := ⟨_, rfl⟩
  obtain ⟨locs, hlo⟩ : ∃ z : List Loc, z = [] := ⟨_, rfl⟩
  rw [← hH] at hP ⊢
  have hS : WS ε s9.heap H locs := by rw [hH, hlo]; exact hS
  rw [← hlo]
  clear hH hlo
  refine lv_iconst (pc := 0) (v := iv 0) hx hb dJ7_fill_53178_0 rfl ?_
  refine lv_istore_n (lv' := [(2, .int (iv 0)), (0, .ref a), (1, .int (iv v9))]) (pc := 1) hx hb dJ7_fill_53178_1 rfl hl (by decide) rfl (fun ls hl => ?_)
  refine lv_aload_n (pc := 2) hx hb dJ7_fill_53178_2 rfl (lv_at hl 1 rfl) ?_
  refine r_alenI (pc := 3) hC hK hP (in_pl ha hf) dJ7_fill_53178_3 ?_
  refine lv_istore_n (lv' := [(3, .int (iv ((N : Int)))), (2, .int (iv 0)), (0, .ref a), (1, .int (iv v9))]) (pc := 4) hx hb dJ7_fill_53178_4 rfl hl (by decide) rfl (fun ls hl => ?_)
  have lp_5 : ∀ (k9 : Nat) (k : Int) (hk : 0 ≤ k ∧ k ≤ (N : Int)) , (((N : Int) - k).toNat) < k9 → ∀ (H : Heap) (locs : List Loc) (ls : Array Slot), WP ε (X ++ va_pl L (va_up f a (eI ε N (FLL g v9 k)))) H → WD ε (X ++ va_pl L (va_up f a (eI ε N (FLL g v9 k)))) → WS ε s9.heap H locs → lv_has ls 4 [(0, .ref a), (1, .int (iv v9)), (2, .int (iv k)), (3, .int (iv ((N : Int))))] → W p9 l e9 rm_c_J_fill s9 m9 a9 bl9 me9 c9 H locs 0 0 Q9 (F0 m9 5 ls []) := by
    intro k9
    induction k9 with
    | zero => intro k hk h9; exact absurd h9 (Nat.not_lt_zero _)
    | succ k9 ih_5 =>
      intro k hk h9 H locs ls hP hD hS hl
      refine lv_iload_n (pc := 5) hx hb dJ7_fill_53178_5 rfl (lv_at hl 2 rfl) ?_
      refine lv_iload_n (pc := 6) hx hb dJ7_fill_53178_6 rfl (lv_at hl 3 rfl) ?_
      refine r_icmp_ge (pc := 7) (a := k) (b := (N : Int)) hx hb dJ7_fill_53178_7 (tgt := 20) (by decide) ⟨by omega, by omega⟩ ⟨by omega, by omega⟩ (fun c_7 => ?_) (fun c_7 => ?_)
      · have c_7_ := c_7
        refine c_vret (pc := 20) hC hQ hP hD hS (by decide) (by decide) dJ7_fill_53178_20 ?_
        exact ⟨rfl, by rw [show k = (N : Int) by omega]⟩
      · have c_7_ := c_7
        refine lv_aload_n (pc := 10) hx hb dJ7_fill_53178_10 rfl (lv_at hl 0 rfl) ?_
        refine lv_iload_n (pc := 11) hx hb dJ7_fill_53178_11 rfl (lv_at hl 2 rfl) ?_
        refine lv_iload_n (pc := 12) hx hb dJ7_fill_53178_12 rfl (lv_at hl 1 rfl) ?_
        refine p_iast (pc := 13) (z := k) (v := v9) hC hK hP hD hS ha (va_up_self _ _ _) ⟨by omega, by omega, by omega⟩ dJ7_fill_53178_13 (fun H locs hP hD hS => ?_)
        replace hP : WP ε (X ++ va_pl L (va_up (va_up f a (eI ε N (FLL g v9 k))) a (eI ε N (va_up (FLL g v9 k) k.toNat v9)))) H := hP
        replace hD : WD ε (X ++ va_pl L (va_up (va_up f a (eI ε N (FLL g v9 k))) a (eI ε N (va_up (FLL g v9 k) k.toNat v9)))) := hD
        refine lv_iinc (v := iv (k + 1)) (lv' := [(2, .int (iv (k + 1))), (0, .ref a), (1, .int (iv v9)), (3, .int (iv ((N : Int))))]) (pc := 14) hx hb dJ7_fill_53178_14 hl (k := 2) rfl (iv_add _ _) (by decide) rfl (fun ls hl => ?_)
        refine lv_goto (pc := 17) (tgt := 5) hx hb dJ7_fill_53178_17 (by decide) ?_
        rw [up_up, FLL.succ hk.1] at hP hD
        exact ih_5 (k + 1) (by omega) (by omega) _ _ _ hP hD hS (lv_sub hl [1, 2, 0, 3] rfl)
  rw [show f = va_up f a (eI ε N (FLL g v9 0)) by rw [FLL.zero, ← hf, up_id]] at hP hD
  exact lp_5 _ 0 (by omega) (Nat.lt_succ_self _) _ _ _ hP hD hS (lv_sub hl [2, 3, 1, 0] rfl)

abbrev rm_c_J_copyI : Room := { frames := 1, cells := 1, slots := 1000, locals := 60 }
set_option maxRecDepth 100000 in
set_option maxHeartbeats 4000000 in
theorem c_J_copyI (l : Launch) (ε : EV) (X : va_W) (L : List Nat) (f : Nat → va_E) (a n : Nat) (d : Nat → Int) (ha : a ∈ L) (hf : f a = eI ε n d) (m : Int) (hm : 0 ≤ m ∧ m ≤ n) (hn : n ≤ 1000) (hd : ∀ k, rg (d k)) : CT l yJ7_copyOf_59c91 cJ7_copyOf_59c91 3 (some (.array .int)) rm_c_J_copyI ε [.ref a, .int (iv m)] (X ++ va_pl L f) (fun v w => ∃ (q : Nat) (g : Nat → Int), q ∉ L ∧ (∀ k : Int, 0 ≤ k → k < m → g k.toNat = d k.toNat) ∧ (∀ k, rg (g k)) ∧ v = some (.ref q) ∧ w = X ++ va_pl (L ++ [q]) (va_up f q (eI ε m.toNat g))) NX := by
  refine CT.intro (by decide +kernel) (Nat.le_of_ble_eq_true rfl) ?_
  intro p9 e9 s9 m9 a9 bl9 me9 c9 ls Q9 hC hE hP hD hl hQ
  have hx := hC.1
  have hb := hC.2.1
  have hK := hE.K
  have hS : WS ε s9.heap s9.heap [] := va_S.rf
  have hl : lv_has ls 3 [(0, .ref a), (1, .int (iv m))] := hl
  obtain ⟨H, hH⟩ : ∃ H, H = s9.heap := ⟨_, rfl⟩
  obtain ⟨locs, hlo⟩ : ∃ z : List Loc, z = [] := ⟨_, rfl⟩
  rw [← hH] at hP ⊢
  have hS : WS ε s9.heap H locs := by rw [hH, hlo]; exact hS
  rw [← hlo]
  clear hH hlo
  refine lv_iload_n (pc := 0) hx hb dJ7_copyOf_59c91_0 rfl (lv_at hl 1 rfl) ?_
  refine lv_aload_n (pc := 1) hx hb dJ7_copyOf_59c91_1 rfl (lv_at hl 0 rfl) ?_
  refine r_alenI (pc := 2) hC hK hP (in_pl ha hf) dJ7_copyOf_59c91_2 ?_
  refine r_icmp_ne (pc := 3) (a := m) (b := (n : Int)) hx hb dJ7_copyOf_59c91_3 (tgt := 14) (by decide) ⟨by omega, by omega⟩ ⟨by omega, by omega⟩ (fun c_3 => ?_) (fun c_3 => ?_)
  · have c_3_ := c_3
    refine lv_iload_n (pc := 14) hx hb dJ7_copyOf_59c91_14 rfl (lv_at hl 1 rfl) ?_
    refine p_newI (pc := 15) (z := m) (N := m.toNat) hC hE hP hD hS (by omega) (by omega) (by decide) (by show _ ≤ 1000; omega) m_0_19 dJ7_copyOf_59c91_15 (fun q1 H hq1 hP hD hS => ?_)
    replace hP : WP ε (X ++ va_pl (L ++ [q1]) (va_up f q1 (eI ε m.toNat (fun _ => 0)))) H := hP
    replace hD : WD ε (X ++ va_pl (L ++ [q1]) (va_up f q1 (eI ε m.toNat (fun _ => 0)))) := hD
    refine W.widen (Nat.le_refl _) (show _ ≤ 1000 from by omega) ?_
    refine lv_astore_n (lv' := [(2, .ref q1), (0, .ref a), (1, .int (iv m))]) (pc := 17) hx hb dJ7_copyOf_59c91_17 rfl hl (by decide) rfl (fun ls hl => ?_)
    refine lv_aload_n (pc := 18) hx hb dJ7_copyOf_59c91_18 rfl (lv_at hl 1 rfl) ?_
    refine lv_iconst (pc := 19) (v := iv 0) hx hb dJ7_copyOf_59c91_19 rfl ?_
    refine lv_aload_n (pc := 20) hx hb dJ7_copyOf_59c91_20 rfl (lv_at hl 0 rfl) ?_
    refine lv_iconst (pc := 21) (v := iv 0) hx hb dJ7_copyOf_59c91_21 rfl ?_
    refine lv_aload_n (pc := 22) hx hb dJ7_copyOf_59c91_22 rfl (lv_at hl 1 rfl) ?_
    refine r_alenI (pc := 23) hC hK hP (in_pl (List.mem_append_left _ ha) ((va_up_ne _ _ (fun hz : a = q1 => hq1 (hz ▸ ha))).trans hf)) dJ7_copyOf_59c91_23 ?_
    refine lv_iload_n (pc := 24) hx hb dJ7_copyOf_59c91_24 rfl (lv_at hl 2 rfl) ?_
    refine r_min (pc := 25) (x := (n : Int)) (y := m) hC hl.1 m_6_1 (by decide) (Nat.le_of_ble_eq_true rfl) (by decide) (by decide) ⟨by omega, by omega⟩ ⟨by omega, by omega⟩ dJ7_copyOf_59c91_25 ?_
    have hmn_25 : (mn ((n : Int)) m = (n : Int) ∨ mn ((n : Int)) m = m) ∧ mn ((n : Int)) m ≤ (n : Int) ∧ mn ((n : Int)) m ≤ m := by unfold mn; split <;> omega
    refine p_copyi (pc := 28) (n := mn ((n : Int)) m) hC hl.1 hK hP hD hS (in_pl (List.mem_append_left _ ha) ((va_up_ne _ _ (fun hz : a = q1 => hq1 (hz ▸ ha))).trans hf)) (List.mem_append_right _ (List.mem_singleton.mpr rfl)) (va_up_self _ _ _) ⟨by omega, by omega, by omega⟩ (by omega) m_6_5 (by decide) (Nat.le_of_ble_eq_true rfl) dJ7_copyOf_59c91_28 (fun H locs hP hD hS => ?_)
    replace hP : WP ε (X ++ va_pl (L ++ [q1]) (va_up (va_up f q1 (eI ε m.toNat (fun _ => 0))) q1 (eI ε m.toNat (va_cpy d (fun _ => 0) 0 0 (mn ((n : Int)) m).toNat)))) H := hP
    replace hD : WD ε (X ++ va_pl (L ++ [q1]) (va_up (va_up f q1 (eI ε m.toNat (fun _ => 0))) q1 (eI ε m.toNat (va_cpy d (fun _ => 0) 0 0 (mn ((n : Int)) m).toNat)))) := hD
    rw [up_up] at hP hD
    replace hP : WP ε (X ++ va_pl (L ++ [q1]) (va_up f q1 (eI ε m.toNat (va_cpy d (fun _ => 0) 0 0 (mn ((n : Int)) m).toNat)))) H := hP
    replace hD : WD ε (X ++ va_pl (L ++ [q1]) (va_up f q1 (eI ε m.toNat (va_cpy d (fun _ => 0) 0 0 (mn ((n : Int)) m).toNat)))) := hD
    refine lv_aload_n (pc := 31) hx hb dJ7_copyOf_59c91_31 rfl (lv_at hl 0 rfl) ?_
    refine c_aret (pc := 32) hC (Or.inr ⟨_, rfl⟩) (Or.inr ⟨_, rfl⟩) hQ hP hD hS (by decide) (by decide) dJ7_copyOf_59c91_32 ?_
    exact ⟨_, _, hq1, fun k h1 h2 => cpy_at (by omega), cpy_rg hd (fun _ => rg0), rfl, rfl⟩
  · have c_3_ := c_3
    refine lv_aload_n (pc := 6) hx hb dJ7_copyOf_59c91_6 rfl (lv_at hl 0 rfl) ?_
    refine p_cloneI (pc := 7) hC hl.1 hE hP hD hS (in_pl ha hf) m_5_20 (by decide) (Nat.le_of_ble_eq_true rfl) (by decide) (by show _ ≤ 1000; omega) dJ7_copyOf_59c91_7 (fun q2 H hq2 hP hD hS => ?_)
    replace hP : WP ε (X ++ va_pl (L ++ [q2]) (va_up f q2 (eI ε n d))) H := hP
    replace hD : WD ε (X ++ va_pl (L ++ [q2]) (va_up f q2 (eI ε n d))) := hD
    refine W.widen (Nat.le_refl _) (show _ ≤ 1000 from by omega) ?_
    refine r_castI (pc := 10) hC hK hP (in_pl (List.mem_append_right _ (List.mem_singleton.mpr rfl)) (va_up_self _ _ _)) m_6_0 dJ7_copyOf_59c91_10 ?_
    refine c_aret (pc := 13) hC (Or.inr ⟨_, rfl⟩) (Or.inr ⟨_, rfl⟩) hQ hP hD hS (by decide) (by decide) dJ7_copyOf_59c91_13 ?_
    exact ⟨_, d, hq2, fun k _ _ => rfl, hd, rfl, by rw [show m.toNat = n by omega]⟩

abbrev rm_c_J_newLength : Room := { frames := 1, cells := 0, slots := 0, locals := 40 }
set_option maxRecDepth 100000 in
set_option maxHeartbeats 4000000 in
theorem c_J_newLength (l : Launch) (ε : EV) (ws : va_W) (ol mg pg : Int) (h1 : 0 ≤ ol ∧ ol ≤ 1000) (h2 : 1 ≤ mg ∧ mg ≤ 1000) (h3 : 0 ≤ pg ∧ pg ≤ 1000) : CT l yJ8_newLength_cabcc cJ8_newLength_cabcc 4 (some .int) rm_c_J_newLength ε [.int (iv ol), .int (iv mg), .int (iv pg)] (ws) (fun v w => v = some (.int (iv (ol + mx mg pg))) ∧ w = ws) NX := by
  refine CT.intro (by decide +kernel) (Nat.le_of_ble_eq_true rfl) ?_
  intro p9 e9 s9 m9 a9 bl9 me9 c9 ls Q9 hC hE hP hD hl hQ
  have hx := hC.1
  have hb := hC.2.1
  have hK := hE.K
  have hS : WS ε s9.heap s9.heap [] := va_S.rf
  have hl : lv_has ls 4 [(0, .int (iv ol)), (1, .int (iv mg)), (2, .int (iv pg))] := hl
  obtain ⟨H, hH⟩ : ∃ H, H = s9.heap := ⟨_, rfl⟩
  obtain ⟨locs, hlo⟩ : ∃ z : List Loc, z = [] := ⟨_, rfl⟩
  rw [← hH] at hP ⊢
  have hS : WS ε s9.heap H locs := by rw [hH, hlo]; exact hS
  rw [← hlo]
  clear hH hlo
  refine lv_iload_n (pc := 0) hx hb dJ8_newLength_cabcc_0 rfl (lv_at hl 0 rfl) ?_
  refine lv_iload_n (pc := 1) hx hb dJ8_newLength_cabcc_1 rfl (lv_at hl 1 rfl) ?_
  refine lv_iload_n (pc := 2) hx hb dJ8_newLength_cabcc_2 rfl (lv_at hl 2 rfl) ?_
  refine r_max (pc := 3) (x := mg) (y := pg) hC hl.1 m_7_23 (by decide) (Nat.le_of_ble_eq_true rfl) (by decide) (by decide) ⟨by omega, by omega⟩ ⟨by omega, by omega⟩ dJ8_newLength_cabcc_3 ?_
  have hmn_3 : (mx mg pg = mg ∨ mx mg pg = pg) ∧ mg ≤ mx mg pg ∧ pg ≤ mx mg pg := by unfold mx; split <;> omega
  refine r_iadd (pc := 6) (a := ol) (b := mx mg pg) hx hb dJ8_newLength_cabcc_6 ?_
  refine lv_istore_n (lv' := [(3, .int (iv (ol + (mx mg pg)))), (0, .int (iv ol)), (1, .int (iv mg)), (2, .int (iv pg))]) (pc := 7) hx hb dJ8_newLength_cabcc_7 rfl hl (by decide) rfl (fun ls hl => ?_)
  refine lv_iconst (pc := 8) (v := iv 0) hx hb dJ8_newLength_cabcc_8 rfl ?_
  refine lv_iload_n (pc := 9) hx hb dJ8_newLength_cabcc_9 rfl (lv_at hl 0 rfl) ?_
  refine r_icmp_ge (pc := 10) (a := 0) (b := ol + (mx mg pg)) hx hb dJ8_newLength_cabcc_10 (tgt := 21) (by decide) ⟨by omega, by omega⟩ ⟨by omega, by omega⟩ (fun c_10 => ?_) (fun c_10 => ?_)
  · have c_10_ := c_10
    omega
  · have c_10_ := c_10
    refine lv_iload_n (pc := 13) hx hb dJ8_newLength_cabcc_13 rfl (lv_at hl 0 rfl) ?_
    refine lv_ldc (pc := 14) (own := RJ8) (v := iv 2147483639) hx hb hC.2.2.2.1 (by rw [show iv 2147483639 = (2147483639 : Int32) by decide]; exact hC.2.2.2.2.1 _ m_7_24) dJ8_newLength_cabcc_14 ?_
    refine r_icmp_gt (pc := 16) (a := ol + (mx mg pg)) (b := 2147483639) hx hb dJ8_newLength_cabcc_16 (tgt := 21) (by decide) ⟨by omega, by omega⟩ ⟨by omega, by omega⟩ (fun c_16 => ?_) (fun c_16 => ?_)
    · have c_16_ := c_16
      omega
    · have c_16_ := c_16
      refine lv_iload_n (pc := 19) hx hb dJ8_newLength_cabcc_19 rfl (lv_at hl 0 rfl) ?_
      refine c_iret (pc := 20) hC hQ hP hD hS (by decide) (by decide) dJ8_newLength_cabcc_20 ?_
      exact ⟨rfl, rfl⟩

abbrev rm_c_J_copyU : Room := { frames := 1, cells := 1, slots := 1000, locals := 60 }
set_option maxRecDepth 100000 in
set_option maxHeartbeats 4000000 in
theorem c_J_copyU (l : Launch) (ε : EV) (X : va_W) (L : List Nat) (f : Nat → va_E) (a n : Nat) (d : Nat → Option Nat) (ha : a ∈ L) (hf : f a = eO ε n d) (m : Int) (hm : n ≤ m ∧ m ≤ 1000) (ci : Nat) (r9 : vw_C) (hc9 : vwCl[ci]? = some r9) (hcast : Cond.castable r9.1 nObj ∈ castW) (hel : ∀ i : Nat, (i : Int) < n → ∀ y : Nat, d i = some y → y ∈ L ∧ ∃ fs, f y = .inr (ci, fs)) : CT l yJ7_copyOf_6403c cJ7_copyOf_6403c 4 (some (.array (.object "java/lang/Object"))) rm_c_J_copyU ε [.ref a, .int (iv m), .ref ((ε.2.2.2 1))] (X ++ va_pl L f) (fun v w => ∃ (q : Nat) (g : Nat → Option Nat), q ∉ L ∧ (∀ k : Int, 0 ≤ k → k < n → g k.toNat = d k.toNat) ∧ v = some (.ref q) ∧ w = X ++ va_pl (L ++ [q]) (va_up f q (eO ε m.toNat g))) NX := by
  refine CT.intro (by decide +kernel) (Nat.le_of_ble_eq_true rfl) ?_
  intro p9 e9 s9 m9 a9 bl9 me9 c9 ls Q9 hC hE hP hD hl hQ
  have hx := hC.1
  have hb := hC.2.1
  have hK := hE.K
  have hS : WS ε s9.heap s9.heap [] := va_S.rf
  have hl : lv_has ls 4 [(0, .ref a), (1, .int (iv m)), (2, .ref ((ε.2.2.2 1)))] := hl
  obtain ⟨H, hH⟩ : ∃ H, H = s9.heap := ⟨_, rfl⟩
  obtain ⟨locs, hlo⟩ : ∃ z : List Loc, z = [] := ⟨_, rfl⟩
  rw [← hH] at hP ⊢
  have hS : WS ε s9.heap H locs := by rw [hH, hlo]; exact hS
  rw [← hlo]
  clear hH hlo
  refine lv_aload_n (pc := 0) hx hb dJ7_copyOf_6403c_0 rfl (lv_at hl 2 rfl) ?_
  refine r_mirror (pc := 1) hC hE m_8_13 dJ7_copyOf_6403c_1 ?_
  refine lv_acmp_ne (pc := 3) (rx := some (ε.2.2.2 1)) (ry := some (ε.2.2.2 1)) (tgt := 13) hx hb dJ7_copyOf_6403c_3 (by decide) (fun c_3 => absurd rfl c_3) (fun _ => ?_)
  refine lv_iload_n (pc := 6) hx hb dJ7_copyOf_6403c_6 rfl (lv_at hl 1 rfl) ?_
  refine p_newO (pc := 7) (z := m) (N := m.toNat) hC hE hP hD hS (by omega) (by omega) (by decide) (by show _ ≤ 1000; omega) m_8_14 dJ7_copyOf_6403c_7 (fun q1 H hq1 hP hD hS => ?_)
  replace hP : WP ε (X ++ va_pl (L ++ [q1]) (va_up f q1 (eO ε m.toNat (fun _ => none)))) H := hP
  replace hD : WD ε (X ++ va_pl (L ++ [q1]) (va_up f q1 (eO ε m.toNat (fun _ => none)))) := hD
  refine W.widen (Nat.le_refl _) (show _ ≤ 1000 from by omega) ?_
  refine lv_goto (pc := 10) (tgt := 24) hx hb dJ7_copyOf_6403c_10 (by decide) ?_
  refine lv_astore_n (lv' := [(3, .ref q1), (0, .ref a), (1, .int (iv m)), (2, .ref ((ε.2.2.2 1)))]) (pc := 24) hx hb dJ7_copyOf_6403c_24 rfl hl (by decide) rfl (fun ls hl => ?_)
  refine lv_aload_n (pc := 25) hx hb dJ7_copyOf_6403c_25 rfl (lv_at hl 1 rfl) ?_
  refine lv_iconst (pc := 26) (v := iv 0) hx hb dJ7_copyOf_6403c_26 rfl ?_
  refine lv_aload_n (pc := 27) hx hb dJ7_copyOf_6403c_27 rfl (lv_at hl 0 rfl) ?_
  refine lv_iconst (pc := 28) (v := iv 0) hx hb dJ7_copyOf_6403c_28 rfl ?_
  refine lv_aload_n (pc := 29) hx hb dJ7_copyOf_6403c_29 rfl (lv_at hl 1 rfl) ?_
  refine r_alenO (pc := 30) hC hK hP (in_pl (List.mem_append_left _ ha) ((va_up_ne _ _ (fun hz : a = q1 => hq1 (hz ▸ ha))).trans hf)) dJ7_copyOf_6403c_30 ?_
  refine lv_iload_n (pc := 31) hx hb dJ7_copyOf_6403c_31 rfl (lv_at hl 2 rfl) ?_
  refine r_min (pc := 32) (x := (n : Int)) (y := m) hC hl.1 m_6_1 (by decide) (Nat.le_of_ble_eq_true rfl) (by decide) (by decide) ⟨by omega, by omega⟩ ⟨by omega, by omega⟩ dJ7_copyOf_6403c_32 ?_
  have hmn_32 : (mn ((n : Int)) m = (n : Int) ∨ mn ((n : Int)) m = m) ∧ mn ((n : Int)) m ≤ (n : Int) ∧ mn ((n : Int)) m ≤ m := by unfold mn; split <;> omega
  refine p_copyo (pc := 35) (n := mn ((n : Int)) m) (ci := ci) (r := r9) hC hl.1 hE hP hD hS (in_pl (List.mem_append_left _ ha) ((va_up_ne _ _ (fun hz : a = q1 => hq1 (hz ▸ ha))).trans hf)) (List.mem_append_right _ (List.mem_singleton.mpr rfl)) (va_up_self _ _ _) ⟨by omega, by omega, by omega⟩ (by omega) hc9 hcast (fun i hi y hy => by obtain ⟨h1, fs, h2⟩ := hel i (by omega) y hy; exact ⟨fs, in_pl (List.mem_append_left _ h1) ((va_up_ne _ _ (fun hz : y = q1 => hq1 (hz ▸ h1))).trans h2)⟩) m_6_5 (by decide) (Nat.le_of_ble_eq_true rfl) dJ7_copyOf_6403c_35 (fun H locs hP hD hS => ?_)
  replace hP : WP ε (X ++ va_pl (L ++ [q1]) (va_up (va_up f q1 (eO ε m.toNat (fun _ => none))) q1 (eO ε m.toNat (va_cpy d (fun _ => none) 0 0 (mn ((n : Int)) m).toNat)))) H := hP
  replace hD : WD ε (X ++ va_pl (L ++ [q1]) (va_up (va_up f q1 (eO ε m.toNat (fun _ => none))) q1 (eO ε m.toNat (va_cpy d (fun _ => none) 0 0 (mn ((n : Int)) m).toNat)))) := hD
  rw [up_up] at hP hD
  replace hP : WP ε (X ++ va_pl (L ++ [q1]) (va_up f q1 (eO ε m.toNat (va_cpy d (fun _ => none) 0 0 (mn ((n : Int)) m).toNat)))) H := hP
  replace hD : WD ε (X ++ va_pl (L ++ [q1]) (va_up f q1 (eO ε m.toNat (va_cpy d (fun _ => none) 0 0 (mn ((n : Int)) m).toNat)))) := hD
  refine lv_aload_n (pc := 38) hx hb dJ7_copyOf_6403c_38 rfl (lv_at hl 0 rfl) ?_
  refine c_aret (pc := 39) hC (Or.inr ⟨_, rfl⟩) (Or.inr ⟨_, rfl⟩) hQ hP hD hS (by decide) (by decide) dJ7_copyOf_6403c_39 ?_
  exact ⟨_, _, hq1, fun k h1 h2 => cpy_at (by omega), rfl, rfl⟩

abbrev rm_c_J_copyO : Room := { frames := 2, cells := 1, slots := 1000, locals := 100 }
set_option maxRecDepth 100000 in
set_option maxHeartbeats 4000000 in
theorem c_J_copyO (l : Launch) (ε : EV) (X : va_W) (L : List Nat) (f : Nat → va_E) (a n : Nat) (d : Nat → Option Nat) (ha : a ∈ L) (hf : f a = eO ε n d) (m : Int) (hm : n ≤ m ∧ m ≤ 1000) (ci : Nat) (r9 : vw_C) (hc9 : vwCl[ci]? = some r9) (hcast : Cond.castable r9.1 nObj ∈ castW) (hel : ∀ i : Nat, (i : Int) < n → ∀ y : Nat, d i = some y → y ∈ L ∧ ∃ fs, f y = .inr (ci, fs)) : CT l yJ7_copyOf_1904c cJ7_copyOf_1904c 2 (some (.array (.object "java/lang/Object"))) rm_c_J_copyO ε [.ref a, .int (iv m)] (X ++ va_pl L f) (fun v w => ∃ (q : Nat) (g : Nat → Option Nat), q ∉ L ∧ (∀ k : Int, 0 ≤ k → k < n → g k.toNat = d k.toNat) ∧ v = some (.ref q) ∧ w = X ++ va_pl (L ++ [q]) (va_up f q (eO ε m.toNat g))) NX := by
  refine CT.intro (by decide +kernel) (Nat.le_of_ble_eq_true rfl) ?_
  intro p9 e9 s9 m9 a9 bl9 me9 c9 ls Q9 hC hE hP hD hl hQ
  have hx := hC.1
  have hb := hC.2.1
  have hK := hE.K
  have hS : WS ε s9.heap s9.heap [] := va_S.rf
  have hl : lv_has ls 2 [(0, .ref a), (1, .int (iv m))] := hl
  obtain ⟨H, hH⟩ : ∃ H, H = s9.heap := ⟨_, rfl⟩
  obtain ⟨locs, hlo⟩ : ∃ z : List Loc, z = [] := ⟨_, rfl⟩
  rw [← hH] at hP ⊢
  have hS : WS ε s9.heap H locs := by rw [hH, hlo]; exact hS
  rw [← hlo]
  clear hH hlo
  refine lv_aload_n (pc := 0) hx hb dJ7_copyOf_1904c_0 rfl (lv_at hl 0 rfl) ?_
  refine lv_iload_n (pc := 1) hx hb dJ7_copyOf_1904c_1 rfl (lv_at hl 1 rfl) ?_
  refine lv_aload_n (pc := 2) hx hb dJ7_copyOf_1904c_2 rfl (lv_at hl 0 rfl) ?_
  refine r_getCO (pc := 3) hC hl.1 hE hP (in_pl ha hf) m_8_6 (by decide) (Nat.le_of_ble_eq_true rfl) dJ7_copyOf_1904c_3 ?_
  refine c_callS (pc := 6) (y := yJ7_copyOf_6403c) (As := [.ref a, .int (iv m), .ref ((ε.2.2.2 1))]) (rest := []) hC hE hP hD hS hl.1 (c_J_copyU l ε X L f a n d ha hf (m) ⟨by omega, by omega⟩ ci r9 hc9 hcast hel) m_8_10 m_8_11 m_5_18 m_8_12 hd_yJ7_copyOf_6403c rfl ⟨⟨by decide, by decide⟩, by decide, by decide⟩ (Nat.le_of_ble_eq_true rfl) rfl dJ7_copyOf_1904c_6 kxN (fun v ws1 H locs hq hP hD hS => ?_)
  obtain ⟨q1, g2, hq1, hg2, hv_, hw_⟩ := hq
  rw [hw_] at hP hD
  rw [hv_]
  clear hv_ hw_
  dsimp only [Option.toList, List.cons_append, List.nil_append]
  replace hP : WP ε (X ++ va_pl (L ++ [q1]) (va_up f q1 (eO ε m.toNat g2))) H := hP
  replace hD : WD ε (X ++ va_pl (L ++ [q1]) (va_up f q1 (eO ε m.toNat g2))) := hD
  refine c_aret (pc := 9) hC (Or.inr ⟨_, rfl⟩) (Or.inr ⟨_, rfl⟩) hQ hP hD hS (by decide) (by decide) dJ7_copyOf_1904c_9 ?_
  exact ⟨_, _, hq1, hg2, rfl, rfl⟩
