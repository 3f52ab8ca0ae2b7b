abbrev rm_c_C_putIn : Room := { frames := 0, cells := 0, slots := 0, locals := 0 }
set_option maxRecDepth 100000 in
set_option maxHeartbeats 4000000 in
theorem c_C_putIn (l : Launch) (ε : EV) (X : va_W) (L : List Nat) (f : Nat → va_E) (ch pa no : Nat) (nt la pt : Int) (S : Nat → Int) (hc1 : ch ∈ L) (hc2 : f ch = oCh pa nt) (hp1 : pa ∈ L) (hp2 : f pa = eI ε 12 S) (ho1 : no ∈ L) (ho2 : f no = oNo la pt) (hcp : ch ≠ pa) (hla : 0 ≤ la ∧ la < 12) : CT l yX0_putIn cX0_putIn 2 none rm_c_C_putIn ε [.ref ch, .ref no] (X ++ va_pl L f) (fun v w => v = none ∧ w = X ++ va_pl L (va_up (va_up f pa (eI ε 12 (va_up S la.toNat pt))) ch (oCh pa (nt + 1)))) NX := by
  refine CT.intro (by decide +kernel) (Nat.le_of_ble_eq_true rfl) ?_
  intro p9 e9 s9 m9 a9 bl9 me9 c9 ls Q9 hC hE hP hD hl hQ
  have hx := hC.1
  have hb := hC.2.1
  have hK := hE.K
  have hS : WS ε s9.heap s9.heap [] := va_S.rf
  have hl : lv_has ls 2 [(0, .ref ch), (1, .ref no)] := hl
  obtain ⟨H, hH⟩ : ∃ H, H = s9.heap := ⟨_, rfl⟩
  obtain ⟨locs, hlo⟩ : ∃ z : List Loc, z = [] := ⟨_, rfl⟩
  rw [← hH] at hP ⊢
  have hS : WS ε s9.heap H locs := by rw [hH, hlo]; exact hS
  rw [← hlo]
  clear hH hlo
  refine lv_aload_n (pc := 0) hx hb dX0_putIn_0 rfl (lv_at hl 1 rfl) ?_
  refine r_get (pc := 1) hC hK hP (in_pl ho1 ho2) (hc := rfl) (fun w h => wt_5 w h) 0 (by decide) m_13_13 (fun _ h => h) (v := .int (iv la)) rfl dX0_putIn_1 ?_
  refine r_if_lt (pc := 4) (a := la) hx hb dX0_putIn_4 (tgt := 32) (by decide) ⟨by omega, by omega⟩ (fun c_4 => ?_) (fun c_4 => ?_)
  · have c_4_ := c_4
    omega
  · have c_4_ := c_4
    refine lv_aload_n (pc := 7) hx hb dX0_putIn_7 rfl (lv_at hl 1 rfl) ?_
    refine r_get (pc := 8) hC hK hP (in_pl ho1 ho2) (hc := rfl) (fun w h => wt_5 w h) 0 (by decide) m_13_13 (fun _ h => h) (v := .int (iv la)) rfl dX0_putIn_8 ?_
    refine lv_aload_n (pc := 11) hx hb dX0_putIn_11 rfl (lv_at hl 0 rfl) ?_
    refine r_get (pc := 12) hC hK hP (in_pl hc1 hc2) (hc := rfl) (fun w h => wt_6 w h) 0 (by decide) m_12_22 (fun _ h => h) (v := .ref pa) rfl dX0_putIn_12 ?_
    refine r_alenI (pc := 15) hC hK hP (in_pl hp1 hp2) dX0_putIn_15 ?_
    refine r_icmp_ge (pc := 16) (a := la) (b := (12 : Int)) hx hb dX0_putIn_16 (tgt := 32) (by decide) ⟨by omega, by omega⟩ ⟨by omega, by omega⟩ (fun c_16 => ?_) (fun c_16 => ?_)
    · have c_16_ := c_16
      omega
    · have c_16_ := c_16
      refine lv_aload_n (pc := 19) hx hb dX0_putIn_19 rfl (lv_at hl 0 rfl) ?_
      refine r_get (pc := 20) hC hK hP (in_pl hc1 hc2) (hc := rfl) (fun w h => wt_6 w h) 0 (by decide) m_12_22 (fun _ h => h) (v := .ref pa) rfl dX0_putIn_20 ?_
      refine lv_aload_n (pc := 23) hx hb dX0_putIn_23 rfl (lv_at hl 1 rfl) ?_
      refine r_get (pc := 24) hC hK hP (in_pl ho1 ho2) (hc := rfl) (fun w h => wt_5 w h) 0 (by decide) m_13_13 (fun _ h => h) (v := .int (iv la)) rfl dX0_putIn_24 ?_
      refine lv_aload_n (pc := 27) hx hb dX0_putIn_27 rfl (lv_at hl 1 rfl) ?_
      refine r_get (pc := 28) hC hK hP (in_pl ho1 ho2) (hc := rfl) (fun w h => wt_5 w h) 1 (by decide) m_13_14 (fun _ h => h) (v := .int (iv pt)) rfl dX0_putIn_28 ?_
      refine p_iast (pc := 31) (z := la) (v := pt) hC hK hP hD hS hp1 hp2 ⟨by omega, by omega, by omega⟩ dX0_putIn_31 (fun H locs hP hD hS => ?_)
      replace hP : WP ε (X ++ va_pl L (va_up f pa (eI ε 12 (va_up S la.toNat pt)))) H := hP
      replace hD : WD ε (X ++ va_pl L (va_up f pa (eI ε 12 (va_up S la.toNat pt)))) := hD
      refine lv_aload_n (pc := 32) hx hb dX0_putIn_32 rfl (lv_at hl 0 rfl) ?_
      refine lv_dup (pc := 33) hx hb dX0_putIn_33 rfl ?_
      refine r_get (pc := 34) hC hK hP (in_pl hc1 ((va_up_ne _ _ hcp).trans hc2)) (hc := rfl) (fun w h => wt_6 w h) 1 (by decide) m_12_23 (fun _ h => h) (v := .int (iv nt)) rfl dX0_putIn_34 ?_
      refine lv_iconst (pc := 37) (v := iv 1) hx hb dX0_putIn_37 rfl ?_
      refine r_iadd (pc := 38) (a := nt) (b := 1) hx hb dX0_putIn_38 ?_
      refine p_put (pc := 39) (ci := 1) (T := TX0) (N := 2) (fs := [.ref pa, .int (iv nt)]) hC hK hP hD hS hc1 ((va_up_ne _ _ hcp).trans hc2) rfl (fun w h => wt_6 w h) tyX0 tyX0_ok nmX0 1 (by decide) m_12_23 (fun _ h => h) rfl (v := .int (iv (nt + 1))) rfl rfl (Nat.le_of_ble_eq_true rfl) dX0_putIn_39 (fun H locs hP hD hS => ?_)
      replace hP : WP ε (X ++ va_pl L (va_up (va_up f pa (eI ε 12 (va_up S la.toNat pt))) ch (.inr (1, [.ref pa, .int (iv (nt + 1))])))) H := hP
      replace hD : WD ε (X ++ va_pl L (va_up (va_up f pa (eI ε 12 (va_up S la.toNat pt))) ch (.inr (1, [.ref pa, .int (iv (nt + 1))])))) := hD
      refine c_vret (pc := 42) hC hQ hP hD hS (by decide) (by decide) dX0_putIn_42 ?_
      exact ⟨rfl, rfl⟩
