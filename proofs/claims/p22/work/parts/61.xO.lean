abbrev rm_c_W_putIn : Room := { frames := 4, cells := 0, slots := 0, locals := 120 }
set_option maxRecDepth 100000 in
set_option maxHeartbeats 4000000 in
theorem c_W_putIn (l : Launch) (ε : EV) (X : va_W) (L : List Nat) (f : Nat → va_E) (ρ : Nat → Int) (x : Nat) (n : Nat → Int) (G : Nat → Nat → Int) (dr aP aL aT aC : Nat) (Dr : Nat → Int) (eP eL eT eC : Int → Nat) (ch : Int) (a : Nat) (hQ0 : RQC (IP L f ρ) ε x n G dr aP aL aT aC Dr eP eL eT eC ch a) (hN : NB n) (hch : 0 ≤ ch ∧ ch ≤ n 4) (h12 : 0 ≤ G 12 ch.toNat ∧ G 12 ch.toNat ≤ n 3) (hV : VNot n G) (many : Int) (hm : 0 ≤ many ∧ many ≤ 600) : CT l yX4_putIn cX4_putIn 5 none rm_c_W_putIn ε [.ref x, .ref a, .int (iv many)] (X ++ va_pl L f) (fun v w => v = none ∧ ∃ f2 : Nat → va_E, w = X ++ va_pl L f2 ∧ RQC (IP L f2 ρ) ε x n (PUT ch G (mn (G 12 ch.toNat + many) (n 3) - G 12 ch.toNat).toNat) dr aP aL aT aC Dr eP eL eT eC ch a) NX := by
  refine CT.intro (by decide +kernel) (Nat.le_of_ble_eq_true rfl) ?_
  intro p9 e9 s9 m9 a9 bl9 me9 c9 ls Q9 hC hE hP hD hl hQ
  have hx := hC.1
  have hb := hC.2.1
  have hK := hE.K
  have hS : WS ε s9.heap s9.heap [] := va_S.rf
  have hl : lv_has ls 5 [(0, .ref x), (1, .ref a), (2, .int (iv many))] := hl
  obtain ⟨H, hH⟩ : ∃ H, H = s9.heap := ⟨_, rfl⟩
  obtain ⟨locs, hlo⟩ : ∃ z : List Loc, z = [] := ⟨_, rfl⟩
  rw [← hH] at hP ⊢
  have hS : WS ε s9.heap H locs := by rw [hH, hlo]; exact hS
  rw [← hlo]
  clear hH hlo
  obtain ⟨hx0, hxD, hlP, hlL, hlT, hlC, hpP, hpL, hpT, hpC, hpA⟩ := id hQ0
  have hnb := hN
  obtain ⟨pa, S, ha1, ha2, ha3⟩ := id hpA
  refine lv_aload_n (pc := 0) hx hb dX4_putIn_0 rfl (lv_at hl 1 rfl) ?_
  refine r_get (pc := 1) hC hK hP (in_pl ha1.1.1 ha1.1.2) (hc := rfl) (fun w h => wt_6 w h) 1 (by decide) m_13_6 (fun _ h => h) (v := .int (iv (G 12 ch.toNat))) rfl dX4_putIn_1 ?_
  refine lv_iload_n (pc := 4) hx hb dX4_putIn_4 rfl (lv_at hl 2 rfl) ?_
  refine r_iadd (pc := 5) (a := G 12 ch.toNat) (b := many) hx hb dX4_putIn_5 ?_
  refine lv_aload_n (pc := 6) hx hb dX4_putIn_6 rfl (lv_at hl 0 rfl) ?_
  refine r_get (pc := 7) hC hK hP (in_pl hx0.1.1 hx0.1.2) (hc := rfl) (fun w h => wt_0 w h) 4 (by decide) m_1_2 (fun _ h => h) (v := .ref aT) rfl dX4_putIn_7 ?_
  obtain ⟨md_10, ed_10, ho_10, -⟩ := (LISTR.map IP.IN hlT).own
  refine c_callV (pc := 10) (y := yJx4a65c_size_8abf5) (As := []) (rest := [.int (iv ((G 12 ch.toNat) + many))]) hC hE hP hD hS hl.1 (c_A_sizeL l ε (X ++ va_pl L f) (LISTR.map IP.IN hlT)) m_2_3 m_2_4 m_2_5 m_0_24 m_2_6 ho_10 rfl hd_yJx4a65c_size_8abf5 rfl ⟨⟨by decide, by decide⟩, by decide, by decide⟩ (Nat.le_of_ble_eq_true rfl) rfl dX4_putIn_10 kxN (fun v ws1 H locs hq hP hD hS => ?_)
  rw [hq.2] at hP hD
  rw [hq.1]
  dsimp only [Option.toList, List.cons_append, List.nil_append]
  refine r_min (pc := 13) (x := (G 12 ch.toNat) + many) (y := n 3) hC hl.1 m_13_7 (by decide) (Nat.le_of_ble_eq_true rfl) (by decide) (by decide) ⟨by omega, by omega⟩ ⟨by omega, by omega⟩ dX4_putIn_13 ?_
  have hmn_13 : (mn ((G 12 ch.toNat) + many) (n 3) = (G 12 ch.toNat) + many ∨ mn ((G 12 ch.toNat) + many) (n 3) = n 3) ∧ mn ((G 12 ch.toNat) + many) (n 3) ≤ (G 12 ch.toNat) + many ∧ mn ((G 12 ch.toNat) + many) (n 3) ≤ n 3 := by unfold mn; split <;> omega
  refine lv_istore_n (lv' := [(3, .int (iv (mn ((G 12 ch.toNat) + many) (n 3)))), (0, .ref x), (1, .ref a), (2, .int (iv many))]) (pc := 16) hx hb dX4_putIn_16 rfl hl (by decide) rfl (fun ls hl => ?_)
  refine lv_aload_n (pc := 17) hx hb dX4_putIn_17 rfl (lv_at hl 2 rfl) ?_
  refine r_get (pc := 18) hC hK hP (in_pl ha1.1.1 ha1.1.2) (hc := rfl) (fun w h => wt_6 w h) 1 (by decide) m_13_6 (fun _ h => h) (v := .int (iv (G 12 ch.toNat))) rfl dX4_putIn_18 ?_
  refine lv_istore (lv' := [(4, .int (iv (G 12 ch.toNat))), (3, .int (iv (mn ((G 12 ch.toNat) + many) (n 3)))), (0, .ref x), (1, .ref a), (2, .int (iv many))]) (pc := 21) hx hb dX4_putIn_21 hl (by decide) rfl (fun ls hl => ?_)
  have lp_23 : ∀ (k9 : Nat) (f9 : Nat → va_E) (i : Int) (hi : G 12 ch.toNat ≤ i ∧ i ≤ mn (G 12 ch.toNat + many) (n 3)) (hQ7 : RQC (IP L f9 ρ) ε x n (PUT ch G (i - G 12 ch.toNat).toNat) dr aP aL aT aC Dr eP eL eT eC ch a) , ((mn (G 12 ch.toNat + many) (n 3) - i).toNat) < k9 → ∀ (H : Heap) (locs : List Loc) (ls : Array Slot), WP ε (X ++ va_pl L f9) H → WD ε (X ++ va_pl L f9) → WS ε s9.heap H locs → lv_has ls 5 [(0, .ref x), (1, .ref a), (3, .int (iv (mn (G 12 ch.toNat + many) (n 3)))), (4, .int (iv i))] → W p9 l e9 rm_c_W_putIn s9 m9 a9 bl9 me9 c9 H locs 0 0 Q9 (F0 m9 23 ls []) := by
    intro k9
    induction k9 with
    | zero => intro f9 i hi hQ7 h9; exact absurd h9 (Nat.not_lt_zero _)
    | succ k9 ih_23 =>
      intro f9 i hi hQ7 h9 H locs ls hP hD hS hl
      clear hx0 hxD hlP hlL hlT hlC hpP hpL hpT hpC hpA ha1 ha2 ha3
      obtain ⟨hx0, hxD, hlP, hlL, hlT, hlC, hpP, hpL, hpT, hpC, hpA⟩ := id hQ7
      obtain ⟨pa, S, ha1, ha2, ha3⟩ := id hpA
      have hat := PUT.at12 ch G (i - G 12 ch.toNat).toNat
      have hat2 : (PUT ch G (i - G 12 ch.toNat).toNat) 12 ch.toNat = i := by omega
      have hne : a ≠ pa := fun z => by have h1 := ha1.1.2; rw [z, ha2.1.2] at h1; cases h1
      refine lv_iload (pc := 23) hx hb dX4_putIn_23 (lv_at hl 3 rfl) ?_
      refine lv_iload_n (pc := 25) hx hb dX4_putIn_25 rfl (lv_at hl 2 rfl) ?_
      refine r_icmp_ge (pc := 26) (a := i) (b := mn (G 12 ch.toNat + many) (n 3)) hx hb dX4_putIn_26 (tgt := 51) (by decide) ⟨by omega, by omega⟩ ⟨by omega, by omega⟩ (fun c_26 => ?_) (fun c_26 => ?_)
      · have c_26_ := c_26
        refine c_vret (pc := 51) hC hQ hP hD hS (by decide) (by decide) dX4_putIn_51 ?_
        exact ⟨rfl, f9, rfl, by rw [show mn (G 12 ch.toNat + many) (n 3) = i by omega]; exact hQ7⟩
      · have c_26_ := c_26
        refine lv_aload_n (pc := 29) hx hb dX4_putIn_29 rfl (lv_at hl 1 rfl) ?_
        refine lv_aload_n (pc := 30) hx hb dX4_putIn_30 rfl (lv_at hl 0 rfl) ?_
        refine r_get (pc := 31) hC hK hP (in_pl hx0.1.1 hx0.1.2) (hc := rfl) (fun w h => wt_0 w h) 4 (by decide) m_1_2 (fun _ h => h) (v := .ref aT) rfl dX4_putIn_31 ?_
        refine lv_iload (pc := 34) hx hb dX4_putIn_34 (lv_at hl 3 rfl) ?_
        obtain ⟨md_36, ed_36, ho_36, -⟩ := (LISTR.map IP.IN hlT).own
        refine c_callV (pc := 36) (y := yJx4a65c_get_915e3) (As := [.int (iv i)]) (rest := [.ref a]) hC hE hP hD hS hl.1 (c_A_getL l ε (X ++ va_pl L f9) (LISTR.map IP.IN hlT) (i) ⟨by omega, by omega⟩) m_2_13 m_2_14 m_2_15 m_0_24 m_2_16 ho_36 rfl hd_yJx4a65c_get_915e3 rfl ⟨⟨by decide, by decide⟩, by decide, by decide⟩ (Nat.le_of_ble_eq_true rfl) rfl dX4_putIn_36 kxN (fun v ws1 H locs hq hP hD hS => ?_)
        rw [hq.2] at hP hD
        rw [hq.1]
        dsimp only [Option.toList, List.cons_append, List.nil_append]
        have hla : 0 ≤ (PUT ch G (i - G 12 ch.toNat).toNat) 11 i.toNat / 32 ∧ (PUT ch G (i - G 12 ch.toNat).toNat) 11 i.toNat / 32 < 12 := by rw [PUT.at11]; have z := (hV.2 i (by omega) (by omega)).1; omega
        have hno : IP L f9 ρ (5000 + i) (eT i) (oNo ((PUT ch G (i - G 12 ch.toNat).toNat) 11 i.toNat / 32) (NOTP ((PUT ch G (i - G 12 ch.toNat).toNat) 11 i.toNat))) := hpT i (by omega) (by omega)
        refine r_cast (pc := 39) hC hK hP (ci := 3) (in_pl hno.1.1 hno.1.2) rfl m_10_7 dX4_putIn_39 ?_
        refine c_callV (pc := 42) (y := yX0_putIn) (As := [.ref ((eT i))]) (rest := []) hC hE hP hD hS hl.1 (c_C_putIn l ε X L f9 a pa (eT i) ((PUT ch G (i - G 12 ch.toNat).toNat) 12 ch.toNat) ((PUT ch G (i - G 12 ch.toNat).toNat) 11 i.toNat / 32) (NOTP ((PUT ch G (i - G 12 ch.toNat).toNat) 11 i.toNat)) S ha1.1.1 ha1.1.2 ha2.1.1 ha2.1.2 hno.1.1 hno.1.2 hne hla) m_13_9 m_13_10 m_13_11 m_12_17 m_13_12 (in_pl ha1.1.1 ha1.1.2) rfl hd_yX0_putIn rfl ⟨⟨by decide, by decide⟩, by decide, by decide⟩ (Nat.le_of_ble_eq_true rfl) rfl dX4_putIn_42 kxN (fun v ws1 H locs hq hP hD hS => ?_)
        rw [hq.2] at hP hD
        rw [hq.1]
        dsimp only [Option.toList, List.cons_append, List.nil_append]
        replace hP : WP ε (X ++ va_pl L (va_up (va_up f9 pa (eI ε 12 (va_up S ((PUT ch G (i - G 12 ch.toNat).toNat) 11 i.toNat / 32).toNat (NOTP ((PUT ch G (i - G 12 ch.toNat).toNat) 11 i.toNat))))) a (.inr (1, [.ref pa, .int (iv ((PUT ch G (i - G 12 ch.toNat).toNat) 12 ch.toNat + 1))])))) H := hP
        replace hD : WD ε (X ++ va_pl L (va_up (va_up f9 pa (eI ε 12 (va_up S ((PUT ch G (i - G 12 ch.toNat).toNat) 11 i.toNat / 32).toNat (NOTP ((PUT ch G (i - G 12 ch.toNat).toNat) 11 i.toNat))))) a (.inr (1, [.ref pa, .int (iv ((PUT ch G (i - G 12 ch.toNat).toNat) 12 ch.toNat + 1))])))) := hD
        refine lv_iinc (v := iv (i + 1)) (lv' := [(4, .int (iv (i + 1))), (0, .ref x), (1, .ref a), (3, .int (iv (mn (G 12 ch.toNat + many) (n 3))))]) (pc := 45) hx hb dX4_putIn_45 hl (k := 3) rfl (iv_add _ _) (by decide) rfl (fun ls hl => ?_)
        refine lv_goto (pc := 48) (tgt := 23) hx hb dX4_putIn_48 (by decide) ?_
        have hQn := RQC.put hQ7 hch.1 hN hch.2 hat2 hla ha1 ha2 ha3 hne
        exact ih_23 ((va_up (va_up f9 pa (eI ε 12 (va_up S ((PUT ch G (i - G 12 ch.toNat).toNat) 11 i.toNat / 32).toNat (NOTP ((PUT ch G (i - G 12 ch.toNat).toNat) 11 i.toNat))))) a (.inr (1, [.ref pa, .int (iv ((PUT ch G (i - G 12 ch.toNat).toNat) 12 ch.toNat + 1))])))) (i + 1) (by omega) (by rw [show (i + 1 - G 12 ch.toNat).toNat = (i - G 12 ch.toNat).toNat + 1 by omega]; exact hQn) (by omega) _ _ _ hP hD hS (lv_sub hl [1, 2, 3, 0] rfl)
  exact lp_23 _ f (G 12 ch.toNat) (by omega) (by rw [show (G 12 ch.toNat - G 12 ch.toNat).toNat = 0 by omega]; exact hQ0) (Nat.lt_succ_self _) _ _ _ hP hD hS (lv_sub hl [2, 3, 1, 0] rfl)
