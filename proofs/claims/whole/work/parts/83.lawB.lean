set_option maxRecDepth 100000 in
set_option maxHeartbeats 4000000 in
theorem law_c5 {p : Program} {l : Launch} {e : Env} {s : State} {m : MethodId} {b N : Nat} {xs : Nat → Int32} {below : List Frame} {meth : Method} {c : Code} {ε : EV} {x m0 : Nat} {ad : Nat → Nat} {o : Nat} {Q : State → Prop} {k : Nat} (h0 : LCX p l s m b N xs meth c ε k) (nx : LAT p l e s m b below meth c ε x m0 ad o Q 1396 k (k + 1)) : LAT p l e s m b below meth c ε x m0 ad o Q 438 k k := by
  intro n G g L f ρ H locs ls hW hP hD hS hl
  obtain ⟨hI, h3, hR⟩ := hW
  obtain ⟨⟨nm9, tb9, hC⟩, hE, hst, hX, hbl, hbA, hN1, hN2⟩ := h0
  have hx := hC.1
  have hb := hC.2.1
  have hK := hE.K
  have hnb := hI.NB
  obtain ⟨x9, hz_x9⟩ : ∃ z : Int, z = ZZ xs (7 * (k : Int) + 1) := ⟨_, rfl⟩
  have rx9 : rg x9 := by rw [hz_x9]; exact ZZ_rg _ _
  obtain ⟨y9, hz_y9⟩ : ∃ z : Int, z = ZZ xs (7 * (k : Int) + 2) := ⟨_, rfl⟩
  have ry9 : rg y9 := by rw [hz_y9]; exact ZZ_rg _ _
  obtain ⟨q, hz_q⟩ : ∃ z : Int, z = ZZ xs (7 * (k : Int) + 3) := ⟨_, rfl⟩
  have rq : rg q := by rw [hz_q]; exact ZZ_rg _ _
  obtain ⟨rc, hz_rc⟩ : ∃ z : Int, z = ZZ xs (7 * (k : Int) + 4) := ⟨_, rfl⟩
  have rrc : rg rc := by rw [hz_rc]; exact ZZ_rg _ _
  obtain ⟨se, hz_se⟩ : ∃ z : Int, z = ZZ xs (7 * (k : Int) + 5) := ⟨_, rfl⟩
  have rse : rg se := by rw [hz_se]; exact ZZ_rg _ _
  refine lv_aload_n (pc := 438) hx hb dL_law_438 rfl (lv_at hl 2 rfl) ?_
  refine lv_aload_n (pc := 439) hx hb dL_law_439 rfl (lv_at hl 1 rfl) ?_
  refine lv_iload (pc := 440) hx hb dL_law_440 (lv_at hl 0 rfl) ?_
  refine lv_iconst (pc := 442) (v := iv 1) hx hb dL_law_442 rfl ?_
  refine r_iadd (pc := 443) (a := 7 * (k : Int)) (b := 1) hx hb dL_law_443 ?_
  refine r_sld (pc := 444) (z := (7 * (k : Int)) + 1) (v := x9) hC hX hbl hbA hS ⟨by omega, by omega, by omega⟩ hz_x9 dL_law_444 ?_
  refine lv_aload_n (pc := 445) hx hb dL_law_445 rfl (lv_at hl 1 rfl) ?_
  refine lv_iload (pc := 446) hx hb dL_law_446 (lv_at hl 0 rfl) ?_
  refine lv_iconst (pc := 448) (v := iv 2) hx hb dL_law_448 rfl ?_
  refine r_iadd (pc := 449) (a := 7 * (k : Int)) (b := 2) hx hb dL_law_449 ?_
  refine r_sld (pc := 450) (z := (7 * (k : Int)) + 2) (v := y9) hC hX hbl hbA hS ⟨by omega, by omega, by omega⟩ hz_y9 dL_law_450 ?_
  refine lv_aload_n (pc := 451) hx hb dL_law_451 rfl (lv_at hl 1 rfl) ?_
  refine lv_iload (pc := 452) hx hb dL_law_452 (lv_at hl 0 rfl) ?_
  refine lv_iconst (pc := 454) (v := iv 3) hx hb dL_law_454 rfl ?_
  refine r_iadd (pc := 455) (a := 7 * (k : Int)) (b := 3) hx hb dL_law_455 ?_
  refine r_sld (pc := 456) (z := (7 * (k : Int)) + 3) (v := q) hC hX hbl hbA hS ⟨by omega, by omega, by omega⟩ hz_q dL_law_456 ?_
  refine lv_aload_n (pc := 457) hx hb dL_law_457 rfl (lv_at hl 1 rfl) ?_
  refine lv_iload (pc := 458) hx hb dL_law_458 (lv_at hl 0 rfl) ?_
  refine lv_iconst (pc := 460) (v := iv 4) hx hb dL_law_460 rfl ?_
  refine r_iadd (pc := 461) (a := 7 * (k : Int)) (b := 4) hx hb dL_law_461 ?_
  refine r_sld (pc := 462) (z := (7 * (k : Int)) + 4) (v := rc) hC hX hbl hbA hS ⟨by omega, by omega, by omega⟩ hz_rc dL_law_462 ?_
  refine lv_aload_n (pc := 463) hx hb dL_law_463 rfl (lv_at hl 1 rfl) ?_
  refine lv_iload (pc := 464) hx hb dL_law_464 (lv_at hl 0 rfl) ?_
  refine lv_iconst (pc := 466) (v := iv 5) hx hb dL_law_466 rfl ?_
  refine r_iadd (pc := 467) (a := 7 * (k : Int)) (b := 5) hx hb dL_law_467 ?_
  refine r_sld (pc := 468) (z := (7 * (k : Int)) + 5) (v := se) hC hX hbl hbA hS ⟨by omega, by omega, by omega⟩ hz_se dL_law_468 ?_
  refine lv_aload_n (pc := 469) hx hb dL_law_469 rfl (lv_at hl 4 rfl) ?_
  replace hP : WP ε ((wM ε m0 ad n G ++ [(o, eJ ε 1 g)]) ++ va_pl L f) H := by rw [List.append_assoc]; exact hP
  replace hD : WD ε ((wM ε m0 ad n G ++ [(o, eJ ε 1 g)]) ++ va_pl L f) := by rw [List.append_assoc]; exact hD
  refine c_callSW (pc := 470) (y := yL_lamp) (hh := [(0, 16, 19, 24), (0, 16, 23, 13), (0, 16, 27, 15)]) (As := [.ref x, .int (iv x9), .int (iv y9), .int (iv q), .int (iv rc), .int (iv se), .ref o]) (rest := []) hC hE hP hD hS hl.1 (c_L_lamp l ε (wM ε m0 ad n G) o g L f ρ hst x n G hR hI x9 y9 q rc se rx9 ry9 rq rrc rse (show n 3 < 512 by omega)) m_11_9 m_11_10 m_2_9 m_11_11 hd_yL_lamp rfl ⟨⟨by decide, by decide⟩, (by show 40 + 20 * k + 14 ≤ 601024; omega), (by show 5000 + 3400 * k + 3300 ≤ 7293034; omega)⟩ (Nat.le_of_ble_eq_true rfl) rfl dL_law_470 kxN (fun v9 w9 H locs hq hP hD hS => ?_)
  rcases hq with hq | hq | hq | hq
  · obtain ⟨hc9, hv_, L2, f2, ρ2, hw_, hR2⟩ := hq
    rw [hw_, List.append_assoc] at hP hD
    rw [hv_]
    clear hv_ hw_
    dsimp only [Option.toList, List.cons_append, List.nil_append]
    refine lv_istore (lv' := [(5, .int (iv 0)), (4, .int (iv (7 * (k : Int)))), (0, .ref b), (1, .ref x), (2, .ref m0), (3, .ref o)]) (pc := 473) hx hb dL_law_473 hl (by decide) rfl (fun ls hl => ?_)
    refine lv_aload_n (pc := 475) hx hb dL_law_475 rfl (lv_at hl 4 rfl) ?_
    refine lv_aload_n (pc := 476) hx hb dL_law_476 rfl (lv_at hl 2 rfl) ?_
    refine lv_iload (pc := 477) hx hb dL_law_477 (lv_at hl 1 rfl) ?_
    refine lv_iconst (pc := 479) (v := iv 1) hx hb dL_law_479 rfl ?_
    refine r_iadd (pc := 480) (a := 7 * (k : Int)) (b := 1) hx hb dL_law_480 ?_
    refine r_sld (pc := 481) (z := (7 * (k : Int)) + 1) (v := x9) hC hX hbl hbA hS ⟨by omega, by omega, by omega⟩ hz_x9 dL_law_481 ?_
    refine lv_aload_n (pc := 482) hx hb dL_law_482 rfl (lv_at hl 2 rfl) ?_
    refine lv_iload (pc := 483) hx hb dL_law_483 (lv_at hl 1 rfl) ?_
    refine lv_iconst (pc := 485) (v := iv 2) hx hb dL_law_485 rfl ?_
    refine r_iadd (pc := 486) (a := 7 * (k : Int)) (b := 2) hx hb dL_law_486 ?_
    refine r_sld (pc := 487) (z := (7 * (k : Int)) + 2) (v := y9) hC hX hbl hbA hS ⟨by omega, by omega, by omega⟩ hz_y9 dL_law_487 ?_
    refine lv_aload_n (pc := 488) hx hb dL_law_488 rfl (lv_at hl 2 rfl) ?_
    refine lv_iload (pc := 489) hx hb dL_law_489 (lv_at hl 1 rfl) ?_
    refine lv_iconst (pc := 491) (v := iv 3) hx hb dL_law_491 rfl ?_
    refine r_iadd (pc := 492) (a := 7 * (k : Int)) (b := 3) hx hb dL_law_492 ?_
    refine r_sld (pc := 493) (z := (7 * (k : Int)) + 3) (v := q) hC hX hbl hbA hS ⟨by omega, by omega, by omega⟩ hz_q dL_law_493 ?_
    refine lv_aload_n (pc := 494) hx hb dL_law_494 rfl (lv_at hl 2 rfl) ?_
    refine lv_iload (pc := 495) hx hb dL_law_495 (lv_at hl 1 rfl) ?_
    refine lv_iconst (pc := 497) (v := iv 4) hx hb dL_law_497 rfl ?_
    refine r_iadd (pc := 498) (a := 7 * (k : Int)) (b := 4) hx hb dL_law_498 ?_
    refine r_sld (pc := 499) (z := (7 * (k : Int)) + 4) (v := rc) hC hX hbl hbA hS ⟨by omega, by omega, by omega⟩ hz_rc dL_law_499 ?_
    refine lv_aload_n (pc := 500) hx hb dL_law_500 rfl (lv_at hl 2 rfl) ?_
    refine lv_iload (pc := 501) hx hb dL_law_501 (lv_at hl 1 rfl) ?_
    refine lv_iconst (pc := 503) (v := iv 5) hx hb dL_law_503 rfl ?_
    refine r_iadd (pc := 504) (a := 7 * (k : Int)) (b := 5) hx hb dL_law_504 ?_
    refine r_sld (pc := 505) (z := (7 * (k : Int)) + 5) (v := se) hC hX hbl hbA hS ⟨by omega, by omega, by omega⟩ hz_se dL_law_505 ?_
    refine c_callV (pc := 506) (y := yX5_lamp) (As := [.int (iv x9), .int (iv y9), .int (iv q), .int (iv rc), .int (iv se)]) (rest := []) hC hE hP hD hS hl.1 (c_m_lamp l ε m0 ad n G ([(o, eJ ε 1 (va_up g 0 (n 2)))] ++ va_pl L2 f2) x9 y9 q rc se rx9 ry9 rq rrc rse hI.2.1 hI.2.2.1 (fun _ => (hI.2.2.2.2.2.2.1 (n 2) (Int.le_refl _)).2) ⟨hI.2.2.2.2.1.1.1, by omega⟩) m_13_18 m_13_19 m_13_20 m_0_5 m_13_21 wM_o rfl hd_yX5_lamp rfl ⟨⟨by decide, by decide⟩, (by show 40 + 20 * k + 14 + 0 ≤ 601024; omega), (by show 5000 + 3400 * k + 3300 + 0 ≤ 7293034; omega)⟩ (Nat.le_of_ble_eq_true rfl) rfl dL_law_506 kxN (fun v9 w9 H locs hq hP hD hS => ?_)
    rcases hq with hq | hq | hq | hq
    · obtain ⟨hd9, hv_, hw_⟩ := hq
      clear hC hE hK hx hb hI hR hR2 nx hP hD hS hl hX
      exfalso
      omega
    · obtain ⟨hd9, hv_, hw_⟩ := hq
      clear hC hE hK hx hb hI hR hR2 nx hP hD hS hl hX
      exfalso
      omega
    · obtain ⟨hd9, hv_, hw_⟩ := hq
      clear hC hE hK hx hb hI hR hR2 nx hP hD hS hl hX
      exfalso
      omega
    · obtain ⟨hd9, hv_, hw_⟩ := hq
      rw [hw_] at hP hD
      rw [hv_]
      clear hv_ hw_
      dsimp only [Option.toList, List.cons_append, List.nil_append]
      refine lv_istore (lv' := [(6, .int (iv (n 2))), (5, .int (iv 0)), (4, .int (iv (7 * (k : Int)))), (0, .ref b), (1, .ref x), (2, .ref m0), (3, .ref o)]) (pc := 509) hx hb dL_law_509 hl (by decide) rfl (fun ls hl => ?_)
      refine lv_aload_n (pc := 511) hx hb dL_law_511 rfl (lv_at hl 5 rfl) ?_
      refine c_callV (pc := 512) (y := yX5_thrown) (As := []) (rest := []) hC hE hP hD hS hl.1 (c_m_thrown l ε m0 ad (va_up (va_up (va_up n 5 0) 2 (n 2 + 1)) 3 (n 3 + 1)) (va_up (GL n G x9 y9 q rc se) 11 (va_up ((GL n G x9 y9 q rc se) 11) ((n 3).toNat) (NV (GL n G x9 y9 q rc se) (n 2)))) ([(o, eJ ε 1 (va_up g 0 (n 2)))] ++ va_pl L2 f2)) m_3_8 m_3_9 m_3_10 m_0_5 m_3_11 wM_o rfl hd_yX5_thrown rfl ⟨⟨by decide, by decide⟩, (by show 40 + 20 * k + 14 + 0 + 0 ≤ 601024; omega), (by show 5000 + 3400 * k + 3300 + 0 + 0 ≤ 7293034; omega)⟩ (Nat.le_of_ble_eq_true rfl) rfl dL_law_512 kxN (fun v9 w9 H locs hq hP hD hS => ?_)
      rw [hq.2] at hP hD
      rw [hq.1]
      dsimp only [Option.toList, List.cons_append, List.nil_append]
      rw [show (va_up (va_up (va_up n 5 0) 2 (n 2 + 1)) 3 (n 3 + 1)) 5 = 0 from rfl]
      refine lv_iload (pc := 515) hx hb dL_law_515 (lv_at hl 1 rfl) ?_
      refine r_icmp_eq (pc := 517) (a := 0) (b := 0) hx hb dL_law_517 (tgt := 522) (by decide) ⟨by omega, by omega⟩ ⟨by omega, by omega⟩ (fun c_517 => ?_) (fun c_517 => ?_)
      · have c_517_ := c_517
        refine lv_iload (pc := 522) hx hb dL_law_522 (lv_at hl 1 rfl) ?_
        refine r_if_ne (pc := 524) (a := 0) hx hb dL_law_524 (tgt := 539) (by decide) ⟨by omega, by omega⟩ (fun c_524 => ?_) (fun c_524 => ?_)
        · exact absurd c_524 (by decide)
        · have c_524_ := c_524
          refine lv_aload_n (pc := 527) hx hb dL_law_527 rfl (lv_at hl 6 rfl) ?_
          refine lv_iconst (pc := 528) (v := iv 0) hx hb dL_law_528 rfl ?_
          refine r_jald (pc := 529) (z := 0) hC hK hP wM_out ⟨by decide, by decide, by decide⟩ dL_law_529 ?_
          rw [show (va_up g 0 (n 2)) (Int.toNat 0) = n 2 from va_up_self _ _ _]
          refine lv_iload (pc := 530) hx hb dL_law_530 (lv_at hl 0 rfl) ?_
          refine lv_i2l (pc := 532) (v := jv (n 2)) hx hb dL_law_532 (iv_long _ ⟨by omega, by omega⟩) ?_
          refine W.lcmp (pc := 533) (x := jv (n 2)) (y := jv (n 2)) hx hb dL_law_533 ?_
          rw [lg_cmp_jv ⟨by omega, by omega⟩ ⟨by omega, by omega⟩]
          have hcm_533 := cmpI_self (n 2)
          refine r_if_eq (pc := 534) (a := cmpI (n 2) (n 2)) hx hb dL_law_534 (tgt := 539) (by decide) ⟨by omega, by omega⟩ (fun c_534 => ?_) (fun c_534 => ?_)
          · have c_534_ := c_534
            refine lv_goto (pc := 539) (tgt := 1396) hx hb dL_law_539 (by decide) ?_
            refine W.widen (k := 40 + 20 * (k + 1)) (n := 5000 + 3400 * (k + 1)) (by show 40 + 20 * k + 14 + 0 + 0 ≤ _; omega) (by show 5000 + 3400 * k + 3300 + 0 + 0 ≤ _; omega) ?_
            exact nx (va_up (va_up (va_up n 5 0) 2 (n 2 + 1)) 3 (n 3 + 1)) (va_up (GL n G x9 y9 q rc se) 11 (va_up ((GL n G x9 y9 q rc se) 11) ((n 3).toNat) (NV (GL n G x9 y9 q rc se) (n 2)))) (va_up g 0 (n 2)) L2 f2 ρ2 _ _ _ ⟨INV.tell (INV.lamp (INV.n5 (c := 0) hI) hc9.2 hc9.1.2.1 hc9.1.1 hc9.1.2.2.1 hc9.1.2.2.2) (i := n 2) ⟨by omega, Int.lt_succ (n 2)⟩ (show n 3 < 512 by omega), (show n 3 + 1 ≤ ((k + 1 : Nat) : Int) by omega), RX.num hR2 rfl rfl rfl rfl rfl⟩ hP hD hS (lv_sub hl [2, 3, 4, 5, 6] rfl)
          · have c_534_ := c_534
            exact absurd (cmpI_self _) c_534
      · exact absurd c_517 (by decide)
  · obtain ⟨hc9, hv_, L2, f2, ρ2, hw_, hR2⟩ := hq
    rw [hw_, List.append_assoc] at hP hD
    rw [hv_]
    clear hv_ hw_
    dsimp only [Option.toList, List.cons_append, List.nil_append]
    refine lv_istore (lv' := [(5, .int (iv 1)), (4, .int (iv (7 * (k : Int)))), (0, .ref b), (1, .ref x), (2, .ref m0), (3, .ref o)]) (pc := 473) hx hb dL_law_473 hl (by decide) rfl (fun ls hl => ?_)
    refine lv_aload_n (pc := 475) hx hb dL_law_475 rfl (lv_at hl 4 rfl) ?_
    refine lv_aload_n (pc := 476) hx hb dL_law_476 rfl (lv_at hl 2 rfl) ?_
    refine lv_iload (pc := 477) hx hb dL_law_477 (lv_at hl 1 rfl) ?_
    refine lv_iconst (pc := 479) (v := iv 1) hx hb dL_law_479 rfl ?_
    refine r_iadd (pc := 480) (a := 7 * (k : Int)) (b := 1) hx hb dL_law_480 ?_
    refine r_sld (pc := 481) (z := (7 * (k : Int)) + 1) (v := x9) hC hX hbl hbA hS ⟨by omega, by omega, by omega⟩ hz_x9 dL_law_481 ?_
    refine lv_aload_n (pc := 482) hx hb dL_law_482 rfl (lv_at hl 2 rfl) ?_
    refine lv_iload (pc := 483) hx hb dL_law_483 (lv_at hl 1 rfl) ?_
    refine lv_iconst (pc := 485) (v := iv 2) hx hb dL_law_485 rfl ?_
    refine r_iadd (pc := 486) (a := 7 * (k : Int)) (b := 2) hx hb dL_law_486 ?_
    refine r_sld (pc := 487) (z := (7 * (k : Int)) + 2) (v := y9) hC hX hbl hbA hS ⟨by omega, by omega, by omega⟩ hz_y9 dL_law_487 ?_
    refine lv_aload_n (pc := 488) hx hb dL_law_488 rfl (lv_at hl 2 rfl) ?_
    refine lv_iload (pc := 489) hx hb dL_law_489 (lv_at hl 1 rfl) ?_
    refine lv_iconst (pc := 491) (v := iv 3) hx hb dL_law_491 rfl ?_
    refine r_iadd (pc := 492) (a := 7 * (k : Int)) (b := 3) hx hb dL_law_492 ?_
    refine r_sld (pc := 493) (z := (7 * (k : Int)) + 3) (v := q) hC hX hbl hbA hS ⟨by omega, by omega, by omega⟩ hz_q dL_law_493 ?_
    refine lv_aload_n (pc := 494) hx hb dL_law_494 rfl (lv_at hl 2 rfl) ?_
    refine lv_iload (pc := 495) hx hb dL_law_495 (lv_at hl 1 rfl) ?_
    refine lv_iconst (pc := 497) (v := iv 4) hx hb dL_law_497 rfl ?_
    refine r_iadd (pc := 498) (a := 7 * (k : Int)) (b := 4) hx hb dL_law_498 ?_
    refine r_sld (pc := 499) (z := (7 * (k : Int)) + 4) (v := rc) hC hX hbl hbA hS ⟨by omega, by omega, by omega⟩ hz_rc dL_law_499 ?_
    refine lv_aload_n (pc := 500) hx hb dL_law_500 rfl (lv_at hl 2 rfl) ?_
    refine lv_iload (pc := 501) hx hb dL_law_501 (lv_at hl 1 rfl) ?_
    refine lv_iconst (pc := 503) (v := iv 5) hx hb dL_law_503 rfl ?_
    refine r_iadd (pc := 504) (a := 7 * (k : Int)) (b := 5) hx hb dL_law_504 ?_
    refine r_sld (pc := 505) (z := (7 * (k : Int)) + 5) (v := se) hC hX hbl hbA hS ⟨by omega, by omega, by omega⟩ hz_se dL_law_505 ?_
    refine c_callV (pc := 506) (y := yX5_lamp) (As := [.int (iv x9), .int (iv y9), .int (iv q), .int (iv rc), .int (iv se)]) (rest := []) hC hE hP hD hS hl.1 (c_m_lamp l ε m0 ad n G ([(o, eJ ε 1 g)] ++ va_pl L2 f2) x9 y9 q rc se rx9 ry9 rq rrc rse hI.2.1 hI.2.2.1 (fun _ => (hI.2.2.2.2.2.2.1 (n 2) (Int.le_refl _)).2) ⟨hI.2.2.2.2.1.1.1, by omega⟩) m_13_18 m_13_19 m_13_20 m_0_5 m_13_21 wM_o rfl hd_yX5_lamp rfl ⟨⟨by decide, by decide⟩, (by show 40 + 20 * k + 14 + 0 ≤ 601024; omega), (by show 5000 + 3400 * k + 3300 + 0 ≤ 7293034; omega)⟩ (Nat.le_of_ble_eq_true rfl) rfl dL_law_506 kxN (fun v9 w9 H locs hq hP hD hS => ?_)
    rcases hq with hq | hq | hq | hq
    · obtain ⟨hd9, hv_, hw_⟩ := hq
      rw [hw_] at hP hD
      rw [hv_]
      clear hv_ hw_
      dsimp only [Option.toList, List.cons_append, List.nil_append]
      refine lv_istore (lv' := [(6, .int (iv 0)), (5, .int (iv 1)), (4, .int (iv (7 * (k : Int)))), (0, .ref b), (1, .ref x), (2, .ref m0), (3, .ref o)]) (pc := 509) hx hb dL_law_509 hl (by decide) rfl (fun ls hl => ?_)
      refine lv_aload_n (pc := 511) hx hb dL_law_511 rfl (lv_at hl 5 rfl) ?_
      refine c_callV (pc := 512) (y := yX5_thrown) (As := []) (rest := []) hC hE hP hD hS hl.1 (c_m_thrown l ε m0 ad (va_up n 5 1) G ([(o, eJ ε 1 g)] ++ va_pl L2 f2)) m_3_8 m_3_9 m_3_10 m_0_5 m_3_11 wM_o rfl hd_yX5_thrown rfl ⟨⟨by decide, by decide⟩, (by show 40 + 20 * k + 14 + 0 + 0 ≤ 601024; omega), (by show 5000 + 3400 * k + 3300 + 0 + 0 ≤ 7293034; omega)⟩ (Nat.le_of_ble_eq_true rfl) rfl dL_law_512 kxN (fun v9 w9 H locs hq hP hD hS => ?_)
      rw [hq.2] at hP hD
      rw [hq.1]
      dsimp only [Option.toList, List.cons_append, List.nil_append]
      rw [show (va_up n 5 1) 5 = 1 from rfl]
      refine lv_iload (pc := 515) hx hb dL_law_515 (lv_at hl 1 rfl) ?_
      refine r_icmp_eq (pc := 517) (a := 1) (b := 1) hx hb dL_law_517 (tgt := 522) (by decide) ⟨by omega, by omega⟩ ⟨by omega, by omega⟩ (fun c_517 => ?_) (fun c_517 => ?_)
      · have c_517_ := c_517
        refine lv_iload (pc := 522) hx hb dL_law_522 (lv_at hl 1 rfl) ?_
        refine r_if_ne (pc := 524) (a := 1) hx hb dL_law_524 (tgt := 539) (by decide) ⟨by omega, by omega⟩ (fun c_524 => ?_) (fun c_524 => ?_)
        · have c_524_ := c_524
          refine lv_goto (pc := 539) (tgt := 1396) hx hb dL_law_539 (by decide) ?_
          refine W.widen (k := 40 + 20 * (k + 1)) (n := 5000 + 3400 * (k + 1)) (by show 40 + 20 * k + 14 + 0 + 0 ≤ _; omega) (by show 5000 + 3400 * k + 3300 + 0 + 0 ≤ _; omega) ?_
          exact nx (va_up n 5 1) G g L2 f2 ρ2 _ _ _ ⟨INV.n5 hI, (show n 3 ≤ ((k + 1 : Nat) : Int) by omega), RX.num hR2 rfl rfl rfl rfl rfl⟩ hP hD hS (lv_sub hl [2, 3, 4, 5, 6] rfl)
        · exact absurd c_524 (by decide)
      · exact absurd c_517 (by decide)
    · obtain ⟨hd9, hv_, hw_⟩ := hq
      clear hC hE hK hx hb hI hR hR2 nx hP hD hS hl hX
      exfalso
      omega
    · obtain ⟨hd9, hv_, hw_⟩ := hq
      clear hC hE hK hx hb hI hR hR2 nx hP hD hS hl hX
      exfalso
      omega
    · obtain ⟨hd9, hv_, hw_⟩ := hq
      clear hC hE hK hx hb hI hR hR2 nx hP hD hS hl hX
      exfalso
      omega
  · obtain ⟨hc9, hv_, L2, f2, ρ2, hw_, hR2⟩ := hq
    rw [hw_, List.append_assoc] at hP hD
    rw [hv_]
    clear hv_ hw_
    dsimp only [Option.toList, List.cons_append, List.nil_append]
    refine lv_istore (lv' := [(5, .int (iv 2)), (4, .int (iv (7 * (k : Int)))), (0, .ref b), (1, .ref x), (2, .ref m0), (3, .ref o)]) (pc := 473) hx hb dL_law_473 hl (by decide) rfl (fun ls hl => ?_)
    refine lv_aload_n (pc := 475) hx hb dL_law_475 rfl (lv_at hl 4 rfl) ?_
    refine lv_aload_n (pc := 476) hx hb dL_law_476 rfl (lv_at hl 2 rfl) ?_
    refine lv_iload (pc := 477) hx hb dL_law_477 (lv_at hl 1 rfl) ?_
    refine lv_iconst (pc := 479) (v := iv 1) hx hb dL_law_479 rfl ?_
    refine r_iadd (pc := 480) (a := 7 * (k : Int)) (b := 1) hx hb dL_law_480 ?_
    refine r_sld (pc := 481) (z := (7 * (k : Int)) + 1) (v := x9) hC hX hbl hbA hS ⟨by omega, by omega, by omega⟩ hz_x9 dL_law_481 ?_
    refine lv_aload_n (pc := 482) hx hb dL_law_482 rfl (lv_at hl 2 rfl) ?_
    refine lv_iload (pc := 483) hx hb dL_law_483 (lv_at hl 1 rfl) ?_
    refine lv_iconst (pc := 485) (v := iv 2) hx hb dL_law_485 rfl ?_
    refine r_iadd (pc := 486) (a := 7 * (k : Int)) (b := 2) hx hb dL_law_486 ?_
    refine r_sld (pc := 487) (z := (7 * (k : Int)) + 2) (v := y9) hC hX hbl hbA hS ⟨by omega, by omega, by omega⟩ hz_y9 dL_law_487 ?_
    refine lv_aload_n (pc := 488) hx hb dL_law_488 rfl (lv_at hl 2 rfl) ?_
    refine lv_iload (pc := 489) hx hb dL_law_489 (lv_at hl 1 rfl) ?_
    refine lv_iconst (pc := 491) (v := iv 3) hx hb dL_law_491 rfl ?_
    refine r_iadd (pc := 492) (a := 7 * (k : Int)) (b := 3) hx hb dL_law_492 ?_
    refine r_sld (pc := 493) (z := (7 * (k : Int)) + 3) (v := q) hC hX hbl hbA hS ⟨by omega, by omega, by omega⟩ hz_q dL_law_493 ?_
    refine lv_aload_n (pc := 494) hx hb dL_law_494 rfl (lv_at hl 2 rfl) ?_
    refine lv_iload (pc := 495) hx hb dL_law_495 (lv_at hl 1 rfl) ?_
    refine lv_iconst (pc := 497) (v := iv 4) hx hb dL_law_497 rfl ?_
    refine r_iadd (pc := 498) (a := 7 * (k : Int)) (b := 4) hx hb dL_law_498 ?_
    refine r_sld (pc := 499) (z := (7 * (k : Int)) + 4) (v := rc) hC hX hbl hbA hS ⟨by omega, by omega, by omega⟩ hz_rc dL_law_499 ?_
    refine lv_aload_n (pc := 500) hx hb dL_law_500 rfl (lv_at hl 2 rfl) ?_
    refine lv_iload (pc := 501) hx hb dL_law_501 (lv_at hl 1 rfl) ?_
    refine lv_iconst (pc := 503) (v := iv 5) hx hb dL_law_503 rfl ?_
    refine r_iadd (pc := 504) (a := 7 * (k : Int)) (b := 5) hx hb dL_law_504 ?_
    refine r_sld (pc := 505) (z := (7 * (k : Int)) + 5) (v := se) hC hX hbl hbA hS ⟨by omega, by omega, by omega⟩ hz_se dL_law_505 ?_
    refine c_callV (pc := 506) (y := yX5_lamp) (As := [.int (iv x9), .int (iv y9), .int (iv q), .int (iv rc), .int (iv se)]) (rest := []) hC hE hP hD hS hl.1 (c_m_lamp l ε m0 ad n G ([(o, eJ ε 1 g)] ++ va_pl L2 f2) x9 y9 q rc se rx9 ry9 rq rrc rse hI.2.1 hI.2.2.1 (fun _ => (hI.2.2.2.2.2.2.1 (n 2) (Int.le_refl _)).2) ⟨hI.2.2.2.2.1.1.1, by omega⟩) m_13_18 m_13_19 m_13_20 m_0_5 m_13_21 wM_o rfl hd_yX5_lamp rfl ⟨⟨by decide, by decide⟩, (by show 40 + 20 * k + 14 + 0 ≤ 601024; omega), (by show 5000 + 3400 * k + 3300 + 0 ≤ 7293034; omega)⟩ (Nat.le_of_ble_eq_true rfl) rfl dL_law_506 kxN (fun v9 w9 H locs hq hP hD hS => ?_)
    rcases hq with hq | hq | hq | hq
    · obtain ⟨hd9, hv_, hw_⟩ := hq
      clear hC hE hK hx hb hI hR hR2 nx hP hD hS hl hX
      exfalso
      omega
    · obtain ⟨hd9, hv_, hw_⟩ := hq
      rw [hw_] at hP hD
      rw [hv_]
      clear hv_ hw_
      dsimp only [Option.toList, List.cons_append, List.nil_append]
      refine lv_istore (lv' := [(6, .int (iv 0)), (5, .int (iv 2)), (4, .int (iv (7 * (k : Int)))), (0, .ref b), (1, .ref x), (2, .ref m0), (3, .ref o)]) (pc := 509) hx hb dL_law_509 hl (by decide) rfl (fun ls hl => ?_)
      refine lv_aload_n (pc := 511) hx hb dL_law_511 rfl (lv_at hl 5 rfl) ?_
      refine c_callV (pc := 512) (y := yX5_thrown) (As := []) (rest := []) hC hE hP hD hS hl.1 (c_m_thrown l ε m0 ad (va_up n 5 2) G ([(o, eJ ε 1 g)] ++ va_pl L2 f2)) m_3_8 m_3_9 m_3_10 m_0_5 m_3_11 wM_o rfl hd_yX5_thrown rfl ⟨⟨by decide, by decide⟩, (by show 40 + 20 * k + 14 + 0 + 0 ≤ 601024; omega), (by show 5000 + 3400 * k + 3300 + 0 + 0 ≤ 7293034; omega)⟩ (Nat.le_of_ble_eq_true rfl) rfl dL_law_512 kxN (fun v9 w9 H locs hq hP hD hS => ?_)
      rw [hq.2] at hP hD
      rw [hq.1]
      dsimp only [Option.toList, List.cons_append, List.nil_append]
      rw [show (va_up n 5 2) 5 = 2 from rfl]
      refine lv_iload (pc := 515) hx hb dL_law_515 (lv_at hl 1 rfl) ?_
      refine r_icmp_eq (pc := 517) (a := 2) (b := 2) hx hb dL_law_517 (tgt := 522) (by decide) ⟨by omega, by omega⟩ ⟨by omega, by omega⟩ (fun c_517 => ?_) (fun c_517 => ?_)
      · have c_517_ := c_517
        refine lv_iload (pc := 522) hx hb dL_law_522 (lv_at hl 1 rfl) ?_
        refine r_if_ne (pc := 524) (a := 2) hx hb dL_law_524 (tgt := 539) (by decide) ⟨by omega, by omega⟩ (fun c_524 => ?_) (fun c_524 => ?_)
        · have c_524_ := c_524
          refine lv_goto (pc := 539) (tgt := 1396) hx hb dL_law_539 (by decide) ?_
          refine W.widen (k := 40 + 20 * (k + 1)) (n := 5000 + 3400 * (k + 1)) (by show 40 + 20 * k + 14 + 0 + 0 ≤ _; omega) (by show 5000 + 3400 * k + 3300 + 0 + 0 ≤ _; omega) ?_
          exact nx (va_up n 5 2) G g L2 f2 ρ2 _ _ _ ⟨INV.n5 hI, (show n 3 ≤ ((k + 1 : Nat) : Int) by omega), RX.num hR2 rfl rfl rfl rfl rfl⟩ hP hD hS (lv_sub hl [2, 3, 4, 5, 6] rfl)
        · exact absurd c_524 (by decide)
      · exact absurd c_517 (by decide)
    · obtain ⟨hd9, hv_, hw_⟩ := hq
      clear hC hE hK hx hb hI hR hR2 nx hP hD hS hl hX
      exfalso
      omega
    · obtain ⟨hd9, hv_, hw_⟩ := hq
      clear hC hE hK hx hb hI hR hR2 nx hP hD hS hl hX
      exfalso
      omega
  · obtain ⟨hc9, hv_, L2, f2, ρ2, hw_, hR2⟩ := hq
    rw [hw_, List.append_assoc] at hP hD
    rw [hv_]
    clear hv_ hw_
    dsimp only [Option.toList, List.cons_append, List.nil_append]
    refine lv_istore (lv' := [(5, .int (iv 3)), (4, .int (iv (7 * (k : Int)))), (0, .ref b), (1, .ref x), (2, .ref m0), (3, .ref o)]) (pc := 473) hx hb dL_law_473 hl (by decide) rfl (fun ls hl => ?_)
    refine lv_aload_n (pc := 475) hx hb dL_law_475 rfl (lv_at hl 4 rfl) ?_
    refine lv_aload_n (pc := 476) hx hb dL_law_476 rfl (lv_at hl 2 rfl) ?_
    refine lv_iload (pc := 477) hx hb dL_law_477 (lv_at hl 1 rfl) ?_
    refine lv_iconst (pc := 479) (v := iv 1) hx hb dL_law_479 rfl ?_
    refine r_iadd (pc := 480) (a := 7 * (k : Int)) (b := 1) hx hb dL_law_480 ?_
    refine r_sld (pc := 481) (z := (7 * (k : Int)) + 1) (v := x9) hC hX hbl hbA hS ⟨by omega, by omega, by omega⟩ hz_x9 dL_law_481 ?_
    refine lv_aload_n (pc := 482) hx hb dL_law_482 rfl (lv_at hl 2 rfl) ?_
    refine lv_iload (pc := 483) hx hb dL_law_483 (lv_at hl 1 rfl) ?_
    refine lv_iconst (pc := 485) (v := iv 2) hx hb dL_law_485 rfl ?_
    refine r_iadd (pc := 486) (a := 7 * (k : Int)) (b := 2) hx hb dL_law_486 ?_
    refine r_sld (pc := 487) (z := (7 * (k : Int)) + 2) (v := y9) hC hX hbl hbA hS ⟨by omega, by omega, by omega⟩ hz_y9 dL_law_487 ?_
    refine lv_aload_n (pc := 488) hx hb dL_law_488 rfl (lv_at hl 2 rfl) ?_
    refine lv_iload (pc := 489) hx hb dL_law_489 (lv_at hl 1 rfl) ?_
    refine lv_iconst (pc := 491) (v := iv 3) hx hb dL_law_491 rfl ?_
    refine r_iadd (pc := 492) (a := 7 * (k : Int)) (b := 3) hx hb dL_law_492 ?_
    refine r_sld (pc := 493) (z := (7 * (k : Int)) + 3) (v := q) hC hX hbl hbA hS ⟨by omega, by omega, by omega⟩ hz_q dL_law_493 ?_
    refine lv_aload_n (pc := 494) hx hb dL_law_494 rfl (lv_at hl 2 rfl) ?_
    refine lv_iload (pc := 495) hx hb dL_law_495 (lv_at hl 1 rfl) ?_
    refine lv_iconst (pc := 497) (v := iv 4) hx hb dL_law_497 rfl ?_
    refine r_iadd (pc := 498) (a := 7 * (k : Int)) (b := 4) hx hb dL_law_498 ?_
    refine r_sld (pc := 499) (z := (7 * (k : Int)) + 4) (v := rc) hC hX hbl hbA hS ⟨by omega, by omega, by omega⟩ hz_rc dL_law_499 ?_
    refine lv_aload_n (pc := 500) hx hb dL_law_500 rfl (lv_at hl 2 rfl) ?_
    refine lv_iload (pc := 501) hx hb dL_law_501 (lv_at hl 1 rfl) ?_
    refine lv_iconst (pc := 503) (v := iv 5) hx hb dL_law_503 rfl ?_
    refine r_iadd (pc := 504) (a := 7 * (k : Int)) (b := 5) hx hb dL_law_504 ?_
    refine r_sld (pc := 505) (z := (7 * (k : Int)) + 5) (v := se) hC hX hbl hbA hS ⟨by omega, by omega, by omega⟩ hz_se dL_law_505 ?_
    refine c_callV (pc := 506) (y := yX5_lamp) (As := [.int (iv x9), .int (iv y9), .int (iv q), .int (iv rc), .int (iv se)]) (rest := []) hC hE hP hD hS hl.1 (c_m_lamp l ε m0 ad n G ([(o, eJ ε 1 g)] ++ va_pl L2 f2) x9 y9 q rc se rx9 ry9 rq rrc rse hI.2.1 hI.2.2.1 (fun _ => (hI.2.2.2.2.2.2.1 (n 2) (Int.le_refl _)).2) ⟨hI.2.2.2.2.1.1.1, by omega⟩) m_13_18 m_13_19 m_13_20 m_0_5 m_13_21 wM_o rfl hd_yX5_lamp rfl ⟨⟨by decide, by decide⟩, (by show 40 + 20 * k + 14 + 0 ≤ 601024; omega), (by show 5000 + 3400 * k + 3300 + 0 ≤ 7293034; omega)⟩ (Nat.le_of_ble_eq_true rfl) rfl dL_law_506 kxN (fun v9 w9 H locs hq hP hD hS => ?_)
    rcases hq with hq | hq | hq | hq
    · obtain ⟨hd9, hv_, hw_⟩ := hq
      clear hC hE hK hx hb hI hR hR2 nx hP hD hS hl hX
      exfalso
      omega
    · obtain ⟨hd9, hv_, hw_⟩ := hq
      clear hC hE hK hx hb hI hR hR2 nx hP hD hS hl hX
      exfalso
      omega
    · obtain ⟨hd9, hv_, hw_⟩ := hq
      rw [hw_] at hP hD
      rw [hv_]
      clear hv_ hw_
      dsimp only [Option.toList, List.cons_append, List.nil_append]
      refine lv_istore (lv' := [(6, .int (iv 0)), (5, .int (iv 3)), (4, .int (iv (7 * (k : Int)))), (0, .ref b), (1, .ref x), (2, .ref m0), (3, .ref o)]) (pc := 509) hx hb dL_law_509 hl (by decide) rfl (fun ls hl => ?_)
      refine lv_aload_n (pc := 511) hx hb dL_law_511 rfl (lv_at hl 5 rfl) ?_
      refine c_callV (pc := 512) (y := yX5_thrown) (As := []) (rest := []) hC hE hP hD hS hl.1 (c_m_thrown l ε m0 ad (va_up n 5 3) G ([(o, eJ ε 1 g)] ++ va_pl L2 f2)) m_3_8 m_3_9 m_3_10 m_0_5 m_3_11 wM_o rfl hd_yX5_thrown rfl ⟨⟨by decide, by decide⟩, (by show 40 + 20 * k + 14 + 0 + 0 ≤ 601024; omega), (by show 5000 + 3400 * k + 3300 + 0 + 0 ≤ 7293034; omega)⟩ (Nat.le_of_ble_eq_true rfl) rfl dL_law_512 kxN (fun v9 w9 H locs hq hP hD hS => ?_)
      rw [hq.2] at hP hD
      rw [hq.1]
      dsimp only [Option.toList, List.cons_append, List.nil_append]
      rw [show (va_up n 5 3) 5 = 3 from rfl]
      refine lv_iload (pc := 515) hx hb dL_law_515 (lv_at hl 1 rfl) ?_
      refine r_icmp_eq (pc := 517) (a := 3) (b := 3) hx hb dL_law_517 (tgt := 522) (by decide) ⟨by omega, by omega⟩ ⟨by omega, by omega⟩ (fun c_517 => ?_) (fun c_517 => ?_)
      · have c_517_ := c_517
        refine lv_iload (pc := 522) hx hb dL_law_522 (lv_at hl 1 rfl) ?_
        refine r_if_ne (pc := 524) (a := 3) hx hb dL_law_524 (tgt := 539) (by decide) ⟨by omega, by omega⟩ (fun c_524 => ?_) (fun c_524 => ?_)
        · have c_524_ := c_524
          refine lv_goto (pc := 539) (tgt := 1396) hx hb dL_law_539 (by decide) ?_
          refine W.widen (k := 40 + 20 * (k + 1)) (n := 5000 + 3400 * (k + 1)) (by show 40 + 20 * k + 14 + 0 + 0 ≤ _; omega) (by show 5000 + 3400 * k + 3300 + 0 + 0 ≤ _; omega) ?_
          exact nx (va_up n 5 3) G g L2 f2 ρ2 _ _ _ ⟨INV.n5 hI, (show n 3 ≤ ((k + 1 : Nat) : Int) by omega), RX.num hR2 rfl rfl rfl rfl rfl⟩ hP hD hS (lv_sub hl [2, 3, 4, 5, 6] rfl)
        · exact absurd c_524 (by decide)
      · exact absurd c_517 (by decide)
    · obtain ⟨hd9, hv_, hw_⟩ := hq
      clear hC hE hK hx hb hI hR hR2 nx hP hD hS hl hX
      exfalso
      omega

set_option maxRecDepth 100000 in
set_option maxHeartbeats 4000000 in
theorem law_c6 {p : Program} {l : Launch} {e : Env} {s : State} {m : MethodId} {b N : Nat} {xs : Nat → Int32} {below : List Frame} {meth : Method} {c : Code} {ε : EV} {x m0 : Nat} {ad : Nat → Nat} {o : Nat} {Q : State → Prop} {k : Nat} (h0 : LCX p l s m b N xs meth c ε k) (nx : LAT p l e s m b below meth c ε x m0 ad o Q 1396 k (k + 1)) : LAT p l e s m b below meth c ε x m0 ad o Q 542 k k := by
  intro n G g L f ρ H locs ls hW hP hD hS hl
  obtain ⟨hI, h3, hR⟩ := hW
  obtain ⟨⟨nm9, tb9, hC⟩, hE, hst, hX, hbl, hbA, hN1, hN2⟩ := h0
  have hx := hC.1
  have hb := hC.2.1
  have hK := hE.K
  have hnb := hI.NB
  obtain ⟨i, hz_i⟩ : ∃ z : Int, z = ZZ xs (7 * (k : Int) + 1) := ⟨_, rfl⟩
  have ri : rg i := by rw [hz_i]; exact ZZ_rg _ _
  obtain ⟨q, hz_q⟩ : ∃ z : Int, z = ZZ xs (7 * (k : Int) + 2) := ⟨_, rfl⟩
  have rq : rg q := by rw [hz_q]; exact ZZ_rg _ _
  obtain ⟨bg, hz_bg⟩ : ∃ z : Int, z = ZZ xs (7 * (k : Int) + 3) := ⟨_, rfl⟩
  have rbg : rg bg := by rw [hz_bg]; exact ZZ_rg _ _
  refine lv_aload_n (pc := 542) hx hb dL_law_542 rfl (lv_at hl 2 rfl) ?_
  refine lv_aload_n (pc := 543) hx hb dL_law_543 rfl (lv_at hl 1 rfl) ?_
  refine lv_iload (pc := 544) hx hb dL_law_544 (lv_at hl 0 rfl) ?_
  refine lv_iconst (pc := 546) (v := iv 1) hx hb dL_law_546 rfl ?_
  refine r_iadd (pc := 547) (a := 7 * (k : Int)) (b := 1) hx hb dL_law_547 ?_
  refine r_sld (pc := 548) (z := (7 * (k : Int)) + 1) (v := i) hC hX hbl hbA hS ⟨by omega, by omega, by omega⟩ hz_i dL_law_548 ?_
  refine lv_aload_n (pc := 549) hx hb dL_law_549 rfl (lv_at hl 1 rfl) ?_
  refine lv_iload (pc := 550) hx hb dL_law_550 (lv_at hl 0 rfl) ?_
  refine lv_iconst (pc := 552) (v := iv 2) hx hb dL_law_552 rfl ?_
  refine r_iadd (pc := 553) (a := 7 * (k : Int)) (b := 2) hx hb dL_law_553 ?_
  refine r_sld (pc := 554) (z := (7 * (k : Int)) + 2) (v := q) hC hX hbl hbA hS ⟨by omega, by omega, by omega⟩ hz_q dL_law_554 ?_
  refine lv_aload_n (pc := 555) hx hb dL_law_555 rfl (lv_at hl 1 rfl) ?_
  refine lv_iload (pc := 556) hx hb dL_law_556 (lv_at hl 0 rfl) ?_
  refine lv_iconst (pc := 558) (v := iv 3) hx hb dL_law_558 rfl ?_
  refine r_iadd (pc := 559) (a := 7 * (k : Int)) (b := 3) hx hb dL_law_559 ?_
  refine r_sld (pc := 560) (z := (7 * (k : Int)) + 3) (v := bg) hC hX hbl hbA hS ⟨by omega, by omega, by omega⟩ hz_bg dL_law_560 ?_
  refine lv_aload_n (pc := 561) hx hb dL_law_561 rfl (lv_at hl 4 rfl) ?_
  replace hP : WP ε ((wM ε m0 ad n G ++ [(o, eJ ε 1 g)]) ++ va_pl L f) H := by rw [List.append_assoc]; exact hP
  replace hD : WD ε ((wM ε m0 ad n G ++ [(o, eJ ε 1 g)]) ++ va_pl L f) := by rw [List.append_assoc]; exact hD
  refine c_callSW (pc := 562) (y := yL_change) (hh := [(0, 12, 15, 24), (0, 12, 19, 13)]) (As := [.ref x, .int (iv i), .int (iv q), .int (iv bg), .ref o]) (rest := []) hC hE hP hD hS hl.1 (c_L_change l ε (wM ε m0 ad n G) o g L f ρ hst x n G hR hI i q bg ri rq rbg (show n 3 < 512 by omega)) m_14_6 m_14_7 m_2_9 m_14_8 hd_yL_change rfl ⟨⟨by decide, by decide⟩, (by show 40 + 20 * k + 8 ≤ 601024; omega), (by show 5000 + 3400 * k + 1100 ≤ 7293034; omega)⟩ (Nat.le_of_ble_eq_true rfl) rfl dL_law_562 kxN (fun v9 w9 H locs hq hP hD hS => ?_)
  rcases hq with hq | hq | hq
  · obtain ⟨hc9, hv_, L2, f2, ρ2, hw_, hR2⟩ := hq
    rw [hw_, List.append_assoc] at hP hD
    rw [hv_]
    clear hv_ hw_
    dsimp only [Option.toList, List.cons_append, List.nil_append]
    refine lv_istore (lv' := [(5, .int (iv 0)), (4, .int (iv (7 * (k : Int)))), (0, .ref b), (1, .ref x), (2, .ref m0), (3, .ref o)]) (pc := 565) hx hb dL_law_565 hl (by decide) rfl (fun ls hl => ?_)
    refine lv_aload_n (pc := 567) hx hb dL_law_567 rfl (lv_at hl 4 rfl) ?_
    refine lv_aload_n (pc := 568) hx hb dL_law_568 rfl (lv_at hl 2 rfl) ?_
    refine lv_iload (pc := 569) hx hb dL_law_569 (lv_at hl 1 rfl) ?_
    refine lv_iconst (pc := 571) (v := iv 1) hx hb dL_law_571 rfl ?_
    refine r_iadd (pc := 572) (a := 7 * (k : Int)) (b := 1) hx hb dL_law_572 ?_
    refine r_sld (pc := 573) (z := (7 * (k : Int)) + 1) (v := i) hC hX hbl hbA hS ⟨by omega, by omega, by omega⟩ hz_i dL_law_573 ?_
    refine lv_aload_n (pc := 574) hx hb dL_law_574 rfl (lv_at hl 2 rfl) ?_
    refine lv_iload (pc := 575) hx hb dL_law_575 (lv_at hl 1 rfl) ?_
    refine lv_iconst (pc := 577) (v := iv 2) hx hb dL_law_577 rfl ?_
    refine r_iadd (pc := 578) (a := 7 * (k : Int)) (b := 2) hx hb dL_law_578 ?_
    refine r_sld (pc := 579) (z := (7 * (k : Int)) + 2) (v := q) hC hX hbl hbA hS ⟨by omega, by omega, by omega⟩ hz_q dL_law_579 ?_
    refine lv_aload_n (pc := 580) hx hb dL_law_580 rfl (lv_at hl 2 rfl) ?_
    refine lv_iload (pc := 581) hx hb dL_law_581 (lv_at hl 1 rfl) ?_
    refine lv_iconst (pc := 583) (v := iv 3) hx hb dL_law_583 rfl ?_
    refine r_iadd (pc := 584) (a := 7 * (k : Int)) (b := 3) hx hb dL_law_584 ?_
    refine r_sld (pc := 585) (z := (7 * (k : Int)) + 3) (v := bg) hC hX hbl hbA hS ⟨by omega, by omega, by omega⟩ hz_bg dL_law_585 ?_
    refine c_callV (pc := 586) (y := yX5_change) (As := [.int (iv i), .int (iv q), .int (iv bg)]) (rest := []) hC hE hP hD hS hl.1 (c_m_change l ε m0 ad n G ([(o, eJ ε 1 (va_up g 0 (n 3)))] ++ va_pl L2 f2) i q bg ri rq rbg hI.2.1 hI.2.2.1 ⟨hI.2.2.2.2.1.1.1, by omega⟩) m_14_14 m_14_15 m_14_16 m_0_5 m_14_17 wM_o rfl hd_yX5_change rfl ⟨⟨by decide, by decide⟩, (by show 40 + 20 * k + 8 + 0 ≤ 601024; omega), (by show 5000 + 3400 * k + 1100 + 0 ≤ 7293034; omega)⟩ (Nat.le_of_ble_eq_true rfl) rfl dL_law_586 kxN (fun v9 w9 H locs hq hP hD hS => ?_)
    rcases hq with hq | hq | hq
    · obtain ⟨hd9, hv_, hw_⟩ := hq
      clear hC hE hK hx hb hI hR hR2 nx hP hD hS hl hX
      exfalso
      omega
    · obtain ⟨hd9, hv_, hw_⟩ := hq
      clear hC hE hK hx hb hI hR hR2 nx hP hD hS hl hX
      exfalso
      omega
    · obtain ⟨hd9, hv_, hw_⟩ := hq
      rw [hw_] at hP hD
      rw [hv_]
      clear hv_ hw_
      dsimp only [Option.toList, List.cons_append, List.nil_append]
      refine lv_istore (lv' := [(6, .int (iv (n 3))), (5, .int (iv 0)), (4, .int (iv (7 * (k : Int)))), (0, .ref b), (1, .ref x), (2, .ref m0), (3, .ref o)]) (pc := 589) hx hb dL_law_589 hl (by decide) rfl (fun ls hl => ?_)
      refine lv_aload_n (pc := 591) hx hb dL_law_591 rfl (lv_at hl 5 rfl) ?_
      refine c_callV (pc := 592) (y := yX5_thrown) (As := []) (rest := []) hC hE hP hD hS hl.1 (c_m_thrown l ε m0 ad (va_up (va_up n 5 0) 3 (n 3 + 1)) (va_up (va_up (va_up G 6 (va_up (G 6) i.toNat q)) 7 (va_up ((va_up G 6 (va_up (G 6) i.toNat q)) 7) i.toNat bg)) 11 (va_up ((va_up (va_up G 6 (va_up (G 6) i.toNat q)) 7 (va_up ((va_up G 6 (va_up (G 6) i.toNat q)) 7) i.toNat bg)) 11) ((n 3).toNat) (NV (va_up (va_up G 6 (va_up (G 6) i.toNat q)) 7 (va_up ((va_up G 6 (va_up (G 6) i.toNat q)) 7) i.toNat bg)) i))) ([(o, eJ ε 1 (va_up g 0 (n 3)))] ++ va_pl L2 f2)) m_3_8 m_3_9 m_3_10 m_0_5 m_3_11 wM_o rfl hd_yX5_thrown rfl ⟨⟨by decide, by decide⟩, (by show 40 + 20 * k + 8 + 0 + 0 ≤ 601024; omega), (by show 5000 + 3400 * k + 1100 + 0 + 0 ≤ 7293034; omega)⟩ (Nat.le_of_ble_eq_true rfl) rfl dL_law_592 kxN (fun v9 w9 H locs hq hP hD hS => ?_)
      rw [hq.2] at hP hD
      rw [hq.1]
      dsimp only [Option.toList, List.cons_append, List.nil_append]
      rw [show (va_up (va_up n 5 0) 3 (n 3 + 1)) 5 = 0 from rfl]
      refine lv_iload (pc := 595) hx hb dL_law_595 (lv_at hl 1 rfl) ?_
      refine r_icmp_eq (pc := 597) (a := 0) (b := 0) hx hb dL_law_597 (tgt := 602) (by decide) ⟨by omega, by omega⟩ ⟨by omega, by omega⟩ (fun c_597 => ?_) (fun c_597 => ?_)
      · have c_597_ := c_597
        refine lv_iload (pc := 602) hx hb dL_law_602 (lv_at hl 1 rfl) ?_
        refine r_if_ne (pc := 604) (a := 0) hx hb dL_law_604 (tgt := 619) (by decide) ⟨by omega, by omega⟩ (fun c_604 => ?_) (fun c_604 => ?_)
        · exact absurd c_604 (by decide)
        · have c_604_ := c_604
          refine lv_aload_n (pc := 607) hx hb dL_law_607 rfl (lv_at hl 6 rfl) ?_
          refine lv_iconst (pc := 608) (v := iv 0) hx hb dL_law_608 rfl ?_
          refine r_jald (pc := 609) (z := 0) hC hK hP wM_out ⟨by decide, by decide, by decide⟩ dL_law_609 ?_
          rw [show (va_up g 0 (n 3)) (Int.toNat 0) = n 3 from va_up_self _ _ _]
          refine lv_iload (pc := 610) hx hb dL_law_610 (lv_at hl 0 rfl) ?_
          refine lv_i2l (pc := 612) (v := jv (n 3)) hx hb dL_law_612 (iv_long _ ⟨by omega, by omega⟩) ?_
          refine W.lcmp (pc := 613) (x := jv (n 3)) (y := jv (n 3)) hx hb dL_law_613 ?_
          rw [lg_cmp_jv ⟨by omega, by omega⟩ ⟨by omega, by omega⟩]
          have hcm_613 := cmpI_self (n 3)
          refine r_if_eq (pc := 614) (a := cmpI (n 3) (n 3)) hx hb dL_law_614 (tgt := 619) (by decide) ⟨by omega, by omega⟩ (fun c_614 => ?_) (fun c_614 => ?_)
          · have c_614_ := c_614
            refine lv_goto (pc := 619) (tgt := 1396) hx hb dL_law_619 (by decide) ?_
            refine W.widen (k := 40 + 20 * (k + 1)) (n := 5000 + 3400 * (k + 1)) (by show 40 + 20 * k + 8 + 0 + 0 ≤ _; omega) (by show 5000 + 3400 * k + 1100 + 0 + 0 ≤ _; omega) ?_
            exact nx (va_up (va_up n 5 0) 3 (n 3 + 1)) (va_up (va_up (va_up G 6 (va_up (G 6) i.toNat q)) 7 (va_up ((va_up G 6 (va_up (G 6) i.toNat q)) 7) i.toNat bg)) 11 (va_up ((va_up (va_up G 6 (va_up (G 6) i.toNat q)) 7 (va_up ((va_up G 6 (va_up (G 6) i.toNat q)) 7) i.toNat bg)) 11) ((n 3).toNat) (NV (va_up (va_up G 6 (va_up (G 6) i.toNat q)) 7 (va_up ((va_up G 6 (va_up (G 6) i.toNat q)) 7) i.toNat bg)) i))) (va_up g 0 (n 3)) L2 f2 ρ2 _ _ _ ⟨INV.tell (INV.change (INV.n5 (c := 0) hI) hc9.1.1 hc9.1.2 hc9.2) (i := i) hc9.1.1 (show n 3 < 512 by omega), (show n 3 + 1 ≤ ((k + 1 : Nat) : Int) by omega), RX.num hR2 rfl rfl rfl rfl rfl⟩ hP hD hS (lv_sub hl [2, 3, 4, 5, 6] rfl)
          · have c_614_ := c_614
            exact absurd (cmpI_self _) c_614
      · exact absurd c_597 (by decide)
  · obtain ⟨hc9, hv_, L2, f2, ρ2, hw_, hR2⟩ := hq
    rw [hw_, List.append_assoc] at hP hD
    rw [hv_]
    clear hv_ hw_
    dsimp only [Option.toList, List.cons_append, List.nil_append]
    refine lv_istore (lv' := [(5, .int (iv 1)), (4, .int (iv (7 * (k : Int)))), (0, .ref b), (1, .ref x), (2, .ref m0), (3, .ref o)]) (pc := 565) hx hb dL_law_565 hl (by decide) rfl (fun ls hl => ?_)
    refine lv_aload_n (pc := 567) hx hb dL_law_567 rfl (lv_at hl 4 rfl) ?_
    refine lv_aload_n (pc := 568) hx hb dL_law_568 rfl (lv_at hl 2 rfl) ?_
    refine lv_iload (pc := 569) hx hb dL_law_569 (lv_at hl 1 rfl) ?_
    refine lv_iconst (pc := 571) (v := iv 1) hx hb dL_law_571 rfl ?_
    refine r_iadd (pc := 572) (a := 7 * (k : Int)) (b := 1) hx hb dL_law_572 ?_
    refine r_sld (pc := 573) (z := (7 * (k : Int)) + 1) (v := i) hC hX hbl hbA hS ⟨by omega, by omega, by omega⟩ hz_i dL_law_573 ?_
    refine lv_aload_n (pc := 574) hx hb dL_law_574 rfl (lv_at hl 2 rfl) ?_
    refine lv_iload (pc := 575) hx hb dL_law_575 (lv_at hl 1 rfl) ?_
    refine lv_iconst (pc := 577) (v := iv 2) hx hb dL_law_577 rfl ?_
    refine r_iadd (pc := 578) (a := 7 * (k : Int)) (b := 2) hx hb dL_law_578 ?_
    refine r_sld (pc := 579) (z := (7 * (k : Int)) + 2) (v := q) hC hX hbl hbA hS ⟨by omega, by omega, by omega⟩ hz_q dL_law_579 ?_
    refine lv_aload_n (pc := 580) hx hb dL_law_580 rfl (lv_at hl 2 rfl) ?_
    refine lv_iload (pc := 581) hx hb dL_law_581 (lv_at hl 1 rfl) ?_
    refine lv_iconst (pc := 583) (v := iv 3) hx hb dL_law_583 rfl ?_
    refine r_iadd (pc := 584) (a := 7 * (k : Int)) (b := 3) hx hb dL_law_584 ?_
    refine r_sld (pc := 585) (z := (7 * (k : Int)) + 3) (v := bg) hC hX hbl hbA hS ⟨by omega, by omega, by omega⟩ hz_bg dL_law_585 ?_
    refine c_callV (pc := 586) (y := yX5_change) (As := [.int (iv i), .int (iv q), .int (iv bg)]) (rest := []) hC hE hP hD hS hl.1 (c_m_change l ε m0 ad n G ([(o, eJ ε 1 g)] ++ va_pl L2 f2) i q bg ri rq rbg hI.2.1 hI.2.2.1 ⟨hI.2.2.2.2.1.1.1, by omega⟩) m_14_14 m_14_15 m_14_16 m_0_5 m_14_17 wM_o rfl hd_yX5_change rfl ⟨⟨by decide, by decide⟩, (by show 40 + 20 * k + 8 + 0 ≤ 601024; omega), (by show 5000 + 3400 * k + 1100 + 0 ≤ 7293034; omega)⟩ (Nat.le_of_ble_eq_true rfl) rfl dL_law_586 kxN (fun v9 w9 H locs hq hP hD hS => ?_)
    rcases hq with hq | hq | hq
    · obtain ⟨hd9, hv_, hw_⟩ := hq
      rw [hw_] at hP hD
      rw [hv_]
      clear hv_ hw_
      dsimp only [Option.toList, List.cons_append, List.nil_append]
      refine lv_istore (lv' := [(6, .int (iv 0)), (5, .int (iv 1)), (4, .int (iv (7 * (k : Int)))), (0, .ref b), (1, .ref x), (2, .ref m0), (3, .ref o)]) (pc := 589) hx hb dL_law_589 hl (by decide) rfl (fun ls hl => ?_)
      refine lv_aload_n (pc := 591) hx hb dL_law_591 rfl (lv_at hl 5 rfl) ?_
      refine c_callV (pc := 592) (y := yX5_thrown) (As := []) (rest := []) hC hE hP hD hS hl.1 (c_m_thrown l ε m0 ad (va_up n 5 1) G ([(o, eJ ε 1 g)] ++ va_pl L2 f2)) m_3_8 m_3_9 m_3_10 m_0_5 m_3_11 wM_o rfl hd_yX5_thrown rfl ⟨⟨by decide, by decide⟩, (by show 40 + 20 * k + 8 + 0 + 0 ≤ 601024; omega), (by show 5000 + 3400 * k + 1100 + 0 + 0 ≤ 7293034; omega)⟩ (Nat.le_of_ble_eq_true rfl) rfl dL_law_592 kxN (fun v9 w9 H locs hq hP hD hS => ?_)
      rw [hq.2] at hP hD
      rw [hq.1]
      dsimp only [Option.toList, List.cons_append, List.nil_append]
      rw [show (va_up n 5 1) 5 = 1 from rfl]
      refine lv_iload (pc := 595) hx hb dL_law_595 (lv_at hl 1 rfl) ?_
      refine r_icmp_eq (pc := 597) (a := 1) (b := 1) hx hb dL_law_597 (tgt := 602) (by decide) ⟨by omega, by omega⟩ ⟨by omega, by omega⟩ (fun c_597 => ?_) (fun c_597 => ?_)
      · have c_597_ := c_597
        refine lv_iload (pc := 602) hx hb dL_law_602 (lv_at hl 1 rfl) ?_
        refine r_if_ne (pc := 604) (a := 1) hx hb dL_law_604 (tgt := 619) (by decide) ⟨by omega, by omega⟩ (fun c_604 => ?_) (fun c_604 => ?_)
        · have c_604_ := c_604
          refine lv_goto (pc := 619) (tgt := 1396) hx hb dL_law_619 (by decide) ?_
          refine W.widen (k := 40 + 20 * (k + 1)) (n := 5000 + 3400 * (k + 1)) (by show 40 + 20 * k + 8 + 0 + 0 ≤ _; omega) (by show 5000 + 3400 * k + 1100 + 0 + 0 ≤ _; omega) ?_
          exact nx (va_up n 5 1) G g L2 f2 ρ2 _ _ _ ⟨INV.n5 hI, (show n 3 ≤ ((k + 1 : Nat) : Int) by omega), RX.num hR2 rfl rfl rfl rfl rfl⟩ hP hD hS (lv_sub hl [2, 3, 4, 5, 6] rfl)
        · exact absurd c_604 (by decide)
      · exact absurd c_597 (by decide)
    · obtain ⟨hd9, hv_, hw_⟩ := hq
      clear hC hE hK hx hb hI hR hR2 nx hP hD hS hl hX
      exfalso
      omega
    · obtain ⟨hd9, hv_, hw_⟩ := hq
      clear hC hE hK hx hb hI hR hR2 nx hP hD hS hl hX
      exfalso
      omega
  · obtain ⟨hc9, hv_, L2, f2, ρ2, hw_, hR2⟩ := hq
    rw [hw_, List.append_assoc] at hP hD
    rw [hv_]
    clear hv_ hw_
    dsimp only [Option.toList, List.cons_append, List.nil_append]
    refine lv_istore (lv' := [(5, .int (iv 2)), (4, .int (iv (7 * (k : Int)))), (0, .ref b), (1, .ref x), (2, .ref m0), (3, .ref o)]) (pc := 565) hx hb dL_law_565 hl (by decide) rfl (fun ls hl => ?_)
    refine lv_aload_n (pc := 567) hx hb dL_law_567 rfl (lv_at hl 4 rfl) ?_
    refine lv_aload_n (pc := 568) hx hb dL_law_568 rfl (lv_at hl 2 rfl) ?_
    refine lv_iload (pc := 569) hx hb dL_law_569 (lv_at hl 1 rfl) ?_
    refine lv_iconst (pc := 571) (v := iv 1) hx hb dL_law_571 rfl ?_
    refine r_iadd (pc := 572) (a := 7 * (k : Int)) (b := 1) hx hb dL_law_572 ?_
    refine r_sld (pc := 573) (z := (7 * (k : Int)) + 1) (v := i) hC hX hbl hbA hS ⟨by omega, by omega, by omega⟩ hz_i dL_law_573 ?_
    refine lv_aload_n (pc := 574) hx hb dL_law_574 rfl (lv_at hl 2 rfl) ?_
    refine lv_iload (pc := 575) hx hb dL_law_575 (lv_at hl 1 rfl) ?_
    refine lv_iconst (pc := 577) (v := iv 2) hx hb dL_law_577 rfl ?_
    refine r_iadd (pc := 578) (a := 7 * (k : Int)) (b := 2) hx hb dL_law_578 ?_
    refine r_sld (pc := 579) (z := (7 * (k : Int)) + 2) (v := q) hC hX hbl hbA hS ⟨by omega, by omega, by omega⟩ hz_q dL_law_579 ?_
    refine lv_aload_n (pc := 580) hx hb dL_law_580 rfl (lv_at hl 2 rfl) ?_
    refine lv_iload (pc := 581) hx hb dL_law_581 (lv_at hl 1 rfl) ?_
    refine lv_iconst (pc := 583) (v := iv 3) hx hb dL_law_583 rfl ?_
    refine r_iadd (pc := 584) (a := 7 * (k : Int)) (b := 3) hx hb dL_law_584 ?_
    refine r_sld (pc := 585) (z := (7 * (k : Int)) + 3) (v := bg) hC hX hbl hbA hS ⟨by omega, by omega, by omega⟩ hz_bg dL_law_585 ?_
    refine c_callV (pc := 586) (y := yX5_change) (As := [.int (iv i), .int (iv q), .int (iv bg)]) (rest := []) hC hE hP hD hS hl.1 (c_m_change l ε m0 ad n G ([(o, eJ ε 1 g)] ++ va_pl L2 f2) i q bg ri rq rbg hI.2.1 hI.2.2.1 ⟨hI.2.2.2.2.1.1.1, by omega⟩) m_14_14 m_14_15 m_14_16 m_0_5 m_14_17 wM_o rfl hd_yX5_change rfl ⟨⟨by decide, by decide⟩, (by show 40 + 20 * k + 8 + 0 ≤ 601024; omega), (by show 5000 + 3400 * k + 1100 + 0 ≤ 7293034; omega)⟩ (Nat.le_of_ble_eq_true rfl) rfl dL_law_586 kxN (fun v9 w9 H locs hq hP hD hS => ?_)
    rcases hq with hq | hq | hq
    · obtain ⟨hd9, hv_, hw_⟩ := hq
      clear hC hE hK hx hb hI hR hR2 nx hP hD hS hl hX
      exfalso
      omega
    · obtain ⟨hd9, hv_, hw_⟩ := hq
      rw [hw_] at hP hD
      rw [hv_]
      clear hv_ hw_
      dsimp only [Option.toList, List.cons_append, List.nil_append]
      refine lv_istore (lv' := [(6, .int (iv 0)), (5, .int (iv 2)), (4, .int (iv (7 * (k : Int)))), (0, .ref b), (1, .ref x), (2, .ref m0), (3, .ref o)]) (pc := 589) hx hb dL_law_589 hl (by decide) rfl (fun ls hl => ?_)
      refine lv_aload_n (pc := 591) hx hb dL_law_591 rfl (lv_at hl 5 rfl) ?_
      refine c_callV (pc := 592) (y := yX5_thrown) (As := []) (rest := []) hC hE hP hD hS hl.1 (c_m_thrown l ε m0 ad (va_up n 5 2) G ([(o, eJ ε 1 g)] ++ va_pl L2 f2)) m_3_8 m_3_9 m_3_10 m_0_5 m_3_11 wM_o rfl hd_yX5_thrown rfl ⟨⟨by decide, by decide⟩, (by show 40 + 20 * k + 8 + 0 + 0 ≤ 601024; omega), (by show 5000 + 3400 * k + 1100 + 0 + 0 ≤ 7293034; omega)⟩ (Nat.le_of_ble_eq_true rfl) rfl dL_law_592 kxN (fun v9 w9 H locs hq hP hD hS => ?_)
      rw [hq.2] at hP hD
      rw [hq.1]
      dsimp only [Option.toList, List.cons_append, List.nil_append]
      rw [show (va_up n 5 2) 5 = 2 from rfl]
      refine lv_iload (pc := 595) hx hb dL_law_595 (lv_at hl 1 rfl) ?_
      refine r_icmp_eq (pc := 597) (a := 2) (b := 2) hx hb dL_law_597 (tgt := 602) (by decide) ⟨by omega, by omega⟩ ⟨by omega, by omega⟩ (fun c_597 => ?_) (fun c_597 => ?_)
      · have c_597_ := c_597
        refine lv_iload (pc := 602) hx hb dL_law_602 (lv_at hl 1 rfl) ?_
        refine r_if_ne (pc := 604) (a := 2) hx hb dL_law_604 (tgt := 619) (by decide) ⟨by omega, by omega⟩ (fun c_604 => ?_) (fun c_604 => ?_)
        · have c_604_ := c_604
          refine lv_goto (pc := 619) (tgt := 1396) hx hb dL_law_619 (by decide) ?_
          refine W.widen (k := 40 + 20 * (k + 1)) (n := 5000 + 3400 * (k + 1)) (by show 40 + 20 * k + 8 + 0 + 0 ≤ _; omega) (by show 5000 + 3400 * k + 1100 + 0 + 0 ≤ _; omega) ?_
          exact nx (va_up n 5 2) G g L2 f2 ρ2 _ _ _ ⟨INV.n5 hI, (show n 3 ≤ ((k + 1 : Nat) : Int) by omega), RX.num hR2 rfl rfl rfl rfl rfl⟩ hP hD hS (lv_sub hl [2, 3, 4, 5, 6] rfl)
        · exact absurd c_604 (by decide)
      · exact absurd c_597 (by decide)
    · obtain ⟨hd9, hv_, hw_⟩ := hq
      clear hC hE hK hx hb hI hR hR2 nx hP hD hS hl hX
      exfalso
      omega

set_option maxRecDepth 100000 in
set_option maxHeartbeats 4000000 in
theorem law_c7 {p : Program} {l : Launch} {e : Env} {s : State} {m : MethodId} {b N : Nat} {xs : Nat → Int32} {below : List Frame} {meth : Method} {c : Code} {ε : EV} {x m0 : Nat} {ad : Nat → Nat} {o : Nat} {Q : State → Prop} {k : Nat} (h0 : LCX p l s m b N xs meth c ε k) (nx : LAT p l e s m b below meth c ε x m0 ad o Q 1396 k (k + 1)) : LAT p l e s m b below meth c ε x m0 ad o Q 622 k k := by
  intro n G g L f ρ H locs ls hW hP hD hS hl
  obtain ⟨hI, h3, hR⟩ := hW
  obtain ⟨⟨nm9, tb9, hC⟩, hE, hst, hX, hbl, hbA, hN1, hN2⟩ := h0
  have hx := hC.1
  have hb := hC.2.1
  have hK := hE.K
  have hnb := hI.NB
  obtain ⟨i, hz_i⟩ : ∃ z : Int, z = ZZ xs (7 * (k : Int) + 1) := ⟨_, rfl⟩
  have ri : rg i := by rw [hz_i]; exact ZZ_rg _ _
  obtain ⟨fz, hz_fz⟩ : ∃ z : Int, z = ZZ xs (7 * (k : Int) + 2) := ⟨_, rfl⟩
  have rfz : rg fz := by rw [hz_fz]; exact ZZ_rg _ _
  refine lv_aload_n (pc := 622) hx hb dL_law_622 rfl (lv_at hl 2 rfl) ?_
  refine lv_aload_n (pc := 623) hx hb dL_law_623 rfl (lv_at hl 1 rfl) ?_
  refine lv_iload (pc := 624) hx hb dL_law_624 (lv_at hl 0 rfl) ?_
  refine lv_iconst (pc := 626) (v := iv 1) hx hb dL_law_626 rfl ?_
  refine r_iadd (pc := 627) (a := 7 * (k : Int)) (b := 1) hx hb dL_law_627 ?_
  refine r_sld (pc := 628) (z := (7 * (k : Int)) + 1) (v := i) hC hX hbl hbA hS ⟨by omega, by omega, by omega⟩ hz_i dL_law_628 ?_
  refine lv_aload_n (pc := 629) hx hb dL_law_629 rfl (lv_at hl 1 rfl) ?_
  refine lv_iload (pc := 630) hx hb dL_law_630 (lv_at hl 0 rfl) ?_
  refine lv_iconst (pc := 632) (v := iv 2) hx hb dL_law_632 rfl ?_
  refine r_iadd (pc := 633) (a := 7 * (k : Int)) (b := 2) hx hb dL_law_633 ?_
  refine r_sld (pc := 634) (z := (7 * (k : Int)) + 2) (v := fz) hC hX hbl hbA hS ⟨by omega, by omega, by omega⟩ hz_fz dL_law_634 ?_
  refine r_if_eq (pc := 635) (a := fz) hx hb dL_law_635 (tgt := 642) (by decide) ⟨by omega, by omega⟩ (fun c_635 => ?_) (fun c_635 => ?_)
  · have c_635_ := c_635
    refine lv_iconst (pc := 642) (v := iv 0) hx hb dL_law_642 rfl ?_
    refine lv_aload_n (pc := 643) hx hb dL_law_643 rfl (lv_at hl 4 rfl) ?_
    replace hP : WP ε ((wM ε m0 ad n G ++ [(o, eJ ε 1 g)]) ++ va_pl L f) H := by rw [List.append_assoc]; exact hP
    replace hD : WD ε ((wM ε m0 ad n G ++ [(o, eJ ε 1 g)]) ++ va_pl L f) := by rw [List.append_assoc]; exact hD
    refine c_callSW (pc := 644) (y := yL_fail) (hh := [(0, 10, 13, 24), (0, 10, 17, 15)]) (As := [.ref x, .int (iv i), .int (iv 0), .ref o]) (rest := []) hC hE hP hD hS hl.1 (c_L_fail l ε (wM ε m0 ad n G) o g L f ρ hst x n G hR hI i 0 ri rg0 (Or.inl rfl) (show n 3 < 512 by omega)) m_14_22 m_14_23 m_2_9 m_14_24 hd_yL_fail rfl ⟨⟨by decide, by decide⟩, (by show 40 + 20 * k + 8 ≤ 601024; omega), (by show 5000 + 3400 * k + 1100 ≤ 7293034; omega)⟩ (Nat.le_of_ble_eq_true rfl) rfl dL_law_644 kxN (fun v9 w9 H locs hq hP hD hS => ?_)
    rcases hq with hq | hq | hq
    · obtain ⟨hc9, hv_, L2, f2, ρ2, hw_, hR2⟩ := hq
      rw [hw_, List.append_assoc] at hP hD
      rw [hv_]
      clear hv_ hw_
      dsimp only [Option.toList, List.cons_append, List.nil_append]
      refine lv_istore (lv' := [(5, .int (iv 0)), (4, .int (iv (7 * (k : Int)))), (0, .ref b), (1, .ref x), (2, .ref m0), (3, .ref o)]) (pc := 647) hx hb dL_law_647 hl (by decide) rfl (fun ls hl => ?_)
      refine lv_aload_n (pc := 649) hx hb dL_law_649 rfl (lv_at hl 4 rfl) ?_
      refine lv_aload_n (pc := 650) hx hb dL_law_650 rfl (lv_at hl 2 rfl) ?_
      refine lv_iload (pc := 651) hx hb dL_law_651 (lv_at hl 1 rfl) ?_
      refine lv_iconst (pc := 653) (v := iv 1) hx hb dL_law_653 rfl ?_
      refine r_iadd (pc := 654) (a := 7 * (k : Int)) (b := 1) hx hb dL_law_654 ?_
      refine r_sld (pc := 655) (z := (7 * (k : Int)) + 1) (v := i) hC hX hbl hbA hS ⟨by omega, by omega, by omega⟩ hz_i dL_law_655 ?_
      refine lv_aload_n (pc := 656) hx hb dL_law_656 rfl (lv_at hl 2 rfl) ?_
      refine lv_iload (pc := 657) hx hb dL_law_657 (lv_at hl 1 rfl) ?_
      refine lv_iconst (pc := 659) (v := iv 2) hx hb dL_law_659 rfl ?_
      refine r_iadd (pc := 660) (a := 7 * (k : Int)) (b := 2) hx hb dL_law_660 ?_
      refine r_sld (pc := 661) (z := (7 * (k : Int)) + 2) (v := fz) hC hX hbl hbA hS ⟨by omega, by omega, by omega⟩ hz_fz dL_law_661 ?_
      refine r_if_eq (pc := 662) (a := fz) hx hb dL_law_662 (tgt := 669) (by decide) ⟨by omega, by omega⟩ (fun c_662 => ?_) (fun c_662 => ?_)
      · have c_662_ := c_662
        refine lv_iconst (pc := 669) (v := iv 0) hx hb dL_law_669 rfl ?_
        refine c_callV (pc := 670) (y := yX5_fail) (As := [.int (iv i), .int (iv 0)]) (rest := []) hC hE hP hD hS hl.1 (c_m_fail l ε m0 ad n G ([(o, eJ ε 1 (va_up g 0 (n 3)))] ++ va_pl L2 f2) i 0 ri (Or.inl rfl) hI.2.1 hI.2.2.1 ⟨hI.2.2.2.2.1.1.1, by omega⟩) m_15_4 m_15_5 m_15_6 m_0_5 m_15_7 wM_o rfl hd_yX5_fail rfl ⟨⟨by decide, by decide⟩, (by show 40 + 20 * k + 8 + 0 ≤ 601024; omega), (by show 5000 + 3400 * k + 1100 + 0 ≤ 7293034; omega)⟩ (Nat.le_of_ble_eq_true rfl) rfl dL_law_670 kxN (fun v9 w9 H locs hq hP hD hS => ?_)
        rcases hq with hq | hq | hq
        · obtain ⟨hd9, hv_, hw_⟩ := hq
          clear hC hE hK hx hb hI hR hR2 nx hP hD hS hl hX
          exfalso
          omega
        · obtain ⟨hd9, hv_, hw_⟩ := hq
          clear hC hE hK hx hb hI hR hR2 nx hP hD hS hl hX
          exfalso
          omega
        · obtain ⟨hd9, hv_, hw_⟩ := hq
          rw [hw_] at hP hD
          rw [hv_]
          clear hv_ hw_
          dsimp only [Option.toList, List.cons_append, List.nil_append]
          refine lv_istore (lv' := [(6, .int (iv (n 3))), (5, .int (iv 0)), (4, .int (iv (7 * (k : Int)))), (0, .ref b), (1, .ref x), (2, .ref m0), (3, .ref o)]) (pc := 673) hx hb dL_law_673 hl (by decide) rfl (fun ls hl => ?_)
          refine lv_aload_n (pc := 675) hx hb dL_law_675 rfl (lv_at hl 5 rfl) ?_
          refine c_callV (pc := 676) (y := yX5_thrown) (As := []) (rest := []) hC hE hP hD hS hl.1 (c_m_thrown l ε m0 ad (va_up (va_up n 5 0) 3 (n 3 + 1)) (va_up (va_up G 10 (va_up (G 10) i.toNat 0)) 11 (va_up ((va_up G 10 (va_up (G 10) i.toNat 0)) 11) ((n 3).toNat) (NV (va_up G 10 (va_up (G 10) i.toNat 0)) i))) ([(o, eJ ε 1 (va_up g 0 (n 3)))] ++ va_pl L2 f2)) m_3_8 m_3_9 m_3_10 m_0_5 m_3_11 wM_o rfl hd_yX5_thrown rfl ⟨⟨by decide, by decide⟩, (by show 40 + 20 * k + 8 + 0 + 0 ≤ 601024; omega), (by show 5000 + 3400 * k + 1100 + 0 + 0 ≤ 7293034; omega)⟩ (Nat.le_of_ble_eq_true rfl) rfl dL_law_676 kxN (fun v9 w9 H locs hq hP hD hS => ?_)
          rw [hq.2] at hP hD
          rw [hq.1]
          dsimp only [Option.toList, List.cons_append, List.nil_append]
          rw [show (va_up (va_up n 5 0) 3 (n 3 + 1)) 5 = 0 from rfl]
          refine lv_iload (pc := 679) hx hb dL_law_679 (lv_at hl 1 rfl) ?_
          refine r_icmp_eq (pc := 681) (a := 0) (b := 0) hx hb dL_law_681 (tgt := 686) (by decide) ⟨by omega, by omega⟩ ⟨by omega, by omega⟩ (fun c_681 => ?_) (fun c_681 => ?_)
          · have c_681_ := c_681
            refine lv_iload (pc := 686) hx hb dL_law_686 (lv_at hl 1 rfl) ?_
            refine r_if_ne (pc := 688) (a := 0) hx hb dL_law_688 (tgt := 703) (by decide) ⟨by omega, by omega⟩ (fun c_688 => ?_) (fun c_688 => ?_)
            · exact absurd c_688 (by decide)
            · have c_688_ := c_688
              refine lv_aload_n (pc := 691) hx hb dL_law_691 rfl (lv_at hl 6 rfl) ?_
              refine lv_iconst (pc := 692) (v := iv 0) hx hb dL_law_692 rfl ?_
              refine r_jald (pc := 693) (z := 0) hC hK hP wM_out ⟨by decide, by decide, by decide⟩ dL_law_693 ?_
              rw [show (va_up g 0 (n 3)) (Int.toNat 0) = n 3 from va_up_self _ _ _]
              refine lv_iload (pc := 694) hx hb dL_law_694 (lv_at hl 0 rfl) ?_
              refine lv_i2l (pc := 696) (v := jv (n 3)) hx hb dL_law_696 (iv_long _ ⟨by omega, by omega⟩) ?_
              refine W.lcmp (pc := 697) (x := jv (n 3)) (y := jv (n 3)) hx hb dL_law_697 ?_
              rw [lg_cmp_jv ⟨by omega, by omega⟩ ⟨by omega, by omega⟩]
              have hcm_697 := cmpI_self (n 3)
              refine r_if_eq (pc := 698) (a := cmpI (n 3) (n 3)) hx hb dL_law_698 (tgt := 703) (by decide) ⟨by omega, by omega⟩ (fun c_698 => ?_) (fun c_698 => ?_)
              · have c_698_ := c_698
                refine lv_goto (pc := 703) (tgt := 1396) hx hb dL_law_703 (by decide) ?_
                refine W.widen (k := 40 + 20 * (k + 1)) (n := 5000 + 3400 * (k + 1)) (by show 40 + 20 * k + 8 + 0 + 0 ≤ _; omega) (by show 5000 + 3400 * k + 1100 + 0 + 0 ≤ _; omega) ?_
                exact nx (va_up (va_up n 5 0) 3 (n 3 + 1)) (va_up (va_up G 10 (va_up (G 10) i.toNat 0)) 11 (va_up ((va_up G 10 (va_up (G 10) i.toNat 0)) 11) ((n 3).toNat) (NV (va_up G 10 (va_up (G 10) i.toNat 0)) i))) (va_up g 0 (n 3)) L2 f2 ρ2 _ _ _ ⟨INV.tell (INV.fail (INV.n5 (c := 0) hI) hc9.1 (Or.inl rfl)) (i := i) hc9.1 (show n 3 < 512 by omega), (show n 3 + 1 ≤ ((k + 1 : Nat) : Int) by omega), RX.num hR2 rfl rfl rfl rfl rfl⟩ hP hD hS (lv_sub hl [2, 3, 4, 5, 6] rfl)
              · have c_698_ := c_698
                exact absurd (cmpI_self _) c_698
          · exact absurd c_681 (by decide)
      · have c_662_ := c_662
        exact absurd c_635 c_662
    · obtain ⟨hc9, hv_, L2, f2, ρ2, hw_, hR2⟩ := hq
      rw [hw_, List.append_assoc] at hP hD
      rw [hv_]
      clear hv_ hw_
      dsimp only [Option.toList, List.cons_append, List.nil_append]
      refine lv_istore (lv' := [(5, .int (iv 1)), (4, .int (iv (7 * (k : Int)))), (0, .ref b), (1, .ref x), (2, .ref m0), (3, .ref o)]) (pc := 647) hx hb dL_law_647 hl (by decide) rfl (fun ls hl => ?_)
      refine lv_aload_n (pc := 649) hx hb dL_law_649 rfl (lv_at hl 4 rfl) ?_
      refine lv_aload_n (pc := 650) hx hb dL_law_650 rfl (lv_at hl 2 rfl) ?_
      refine lv_iload (pc := 651) hx hb dL_law_651 (lv_at hl 1 rfl) ?_
      refine lv_iconst (pc := 653) (v := iv 1) hx hb dL_law_653 rfl ?_
      refine r_iadd (pc := 654) (a := 7 * (k : Int)) (b := 1) hx hb dL_law_654 ?_
      refine r_sld (pc := 655) (z := (7 * (k : Int)) + 1) (v := i) hC hX hbl hbA hS ⟨by omega, by omega, by omega⟩ hz_i dL_law_655 ?_
      refine lv_aload_n (pc := 656) hx hb dL_law_656 rfl (lv_at hl 2 rfl) ?_
      refine lv_iload (pc := 657) hx hb dL_law_657 (lv_at hl 1 rfl) ?_
      refine lv_iconst (pc := 659) (v := iv 2) hx hb dL_law_659 rfl ?_
      refine r_iadd (pc := 660) (a := 7 * (k : Int)) (b := 2) hx hb dL_law_660 ?_
      refine r_sld (pc := 661) (z := (7 * (k : Int)) + 2) (v := fz) hC hX hbl hbA hS ⟨by omega, by omega, by omega⟩ hz_fz dL_law_661 ?_
      refine r_if_eq (pc := 662) (a := fz) hx hb dL_law_662 (tgt := 669) (by decide) ⟨by omega, by omega⟩ (fun c_662 => ?_) (fun c_662 => ?_)
      · have c_662_ := c_662
        refine lv_iconst (pc := 669) (v := iv 0) hx hb dL_law_669 rfl ?_
        refine c_callV (pc := 670) (y := yX5_fail) (As := [.int (iv i), .int (iv 0)]) (rest := []) hC hE hP hD hS hl.1 (c_m_fail l ε m0 ad n G ([(o, eJ ε 1 g)] ++ va_pl L2 f2) i 0 ri (Or.inl rfl) hI.2.1 hI.2.2.1 ⟨hI.2.2.2.2.1.1.1, by omega⟩) m_15_4 m_15_5 m_15_6 m_0_5 m_15_7 wM_o rfl hd_yX5_fail rfl ⟨⟨by decide, by decide⟩, (by show 40 + 20 * k + 8 + 0 ≤ 601024; omega), (by show 5000 + 3400 * k + 1100 + 0 ≤ 7293034; omega)⟩ (Nat.le_of_ble_eq_true rfl) rfl dL_law_670 kxN (fun v9 w9 H locs hq hP hD hS => ?_)
        rcases hq with hq | hq | hq
        · obtain ⟨hd9, hv_, hw_⟩ := hq
          rw [hw_] at hP hD
          rw [hv_]
          clear hv_ hw_
          dsimp only [Option.toList, List.cons_append, List.nil_append]
          refine lv_istore (lv' := [(6, .int (iv 0)), (5, .int (iv 1)), (4, .int (iv (7 * (k : Int)))), (0, .ref b), (1, .ref x), (2, .ref m0), (3, .ref o)]) (pc := 673) hx hb dL_law_673 hl (by decide) rfl (fun ls hl => ?_)
          refine lv_aload_n (pc := 675) hx hb dL_law_675 rfl (lv_at hl 5 rfl) ?_
          refine c_callV (pc := 676) (y := yX5_thrown) (As := []) (rest := []) hC hE hP hD hS hl.1 (c_m_thrown l ε m0 ad (va_up n 5 1) G ([(o, eJ ε 1 g)] ++ va_pl L2 f2)) m_3_8 m_3_9 m_3_10 m_0_5 m_3_11 wM_o rfl hd_yX5_thrown rfl ⟨⟨by decide, by decide⟩, (by show 40 + 20 * k + 8 + 0 + 0 ≤ 601024; omega), (by show 5000 + 3400 * k + 1100 + 0 + 0 ≤ 7293034; omega)⟩ (Nat.le_of_ble_eq_true rfl) rfl dL_law_676 kxN (fun v9 w9 H locs hq hP hD hS => ?_)
          rw [hq.2] at hP hD
          rw [hq.1]
          dsimp only [Option.toList, List.cons_append, List.nil_append]
          rw [show (va_up n 5 1) 5 = 1 from rfl]
          refine lv_iload (pc := 679) hx hb dL_law_679 (lv_at hl 1 rfl) ?_
          refine r_icmp_eq (pc := 681) (a := 1) (b := 1) hx hb dL_law_681 (tgt := 686) (by decide) ⟨by omega, by omega⟩ ⟨by omega, by omega⟩ (fun c_681 => ?_) (fun c_681 => ?_)
          · have c_681_ := c_681
            refine lv_iload (pc := 686) hx hb dL_law_686 (lv_at hl 1 rfl) ?_
            refine r_if_ne (pc := 688) (a := 1) hx hb dL_law_688 (tgt := 703) (by decide) ⟨by omega, by omega⟩ (fun c_688 => ?_) (fun c_688 => ?_)
            · have c_688_ := c_688
              refine lv_goto (pc := 703) (tgt := 1396) hx hb dL_law_703 (by decide) ?_
              refine W.widen (k := 40 + 20 * (k + 1)) (n := 5000 + 3400 * (k + 1)) (by show 40 + 20 * k + 8 + 0 + 0 ≤ _; omega) (by show 5000 + 3400 * k + 1100 + 0 + 0 ≤ _; omega) ?_
              exact nx (va_up n 5 1) G g L2 f2 ρ2 _ _ _ ⟨INV.n5 hI, (show n 3 ≤ ((k + 1 : Nat) : Int) by omega), RX.num hR2 rfl rfl rfl rfl rfl⟩ hP hD hS (lv_sub hl [2, 3, 4, 5, 6] rfl)
            · exact absurd c_688 (by decide)
          · exact absurd c_681 (by decide)
        · obtain ⟨hd9, hv_, hw_⟩ := hq
          clear hC hE hK hx hb hI hR hR2 nx hP hD hS hl hX
          exfalso
          omega
        · obtain ⟨hd9, hv_, hw_⟩ := hq
          clear hC hE hK hx hb hI hR hR2 nx hP hD hS hl hX
          exfalso
          omega
      · have c_662_ := c_662
        exact absurd c_635 c_662
    · obtain ⟨hc9, hv_, L2, f2, ρ2, hw_, hR2⟩ := hq
      rw [hw_, List.append_assoc] at hP hD
      rw [hv_]
      clear hv_ hw_
      dsimp only [Option.toList, List.cons_append, List.nil_append]
      refine lv_istore (lv' := [(5, .int (iv 2)), (4, .int (iv (7 * (k : Int)))), (0, .ref b), (1, .ref x), (2, .ref m0), (3, .ref o)]) (pc := 647) hx hb dL_law_647 hl (by decide) rfl (fun ls hl => ?_)
      refine lv_aload_n (pc := 649) hx hb dL_law_649 rfl (lv_at hl 4 rfl) ?_
      refine lv_aload_n (pc := 650) hx hb dL_law_650 rfl (lv_at hl 2 rfl) ?_
      refine lv_iload (pc := 651) hx hb dL_law_651 (lv_at hl 1 rfl) ?_
      refine lv_iconst (pc := 653) (v := iv 1) hx hb dL_law_653 rfl ?_
      refine r_iadd (pc := 654) (a := 7 * (k : Int)) (b := 1) hx hb dL_law_654 ?_
      refine r_sld (pc := 655) (z := (7 * (k : Int)) + 1) (v := i) hC hX hbl hbA hS ⟨by omega, by omega, by omega⟩ hz_i dL_law_655 ?_
      refine lv_aload_n (pc := 656) hx hb dL_law_656 rfl (lv_at hl 2 rfl) ?_
      refine lv_iload (pc := 657) hx hb dL_law_657 (lv_at hl 1 rfl) ?_
      refine lv_iconst (pc := 659) (v := iv 2) hx hb dL_law_659 rfl ?_
      refine r_iadd (pc := 660) (a := 7 * (k : Int)) (b := 2) hx hb dL_law_660 ?_
      refine r_sld (pc := 661) (z := (7 * (k : Int)) + 2) (v := fz) hC hX hbl hbA hS ⟨by omega, by omega, by omega⟩ hz_fz dL_law_661 ?_
      refine r_if_eq (pc := 662) (a := fz) hx hb dL_law_662 (tgt := 669) (by decide) ⟨by omega, by omega⟩ (fun c_662 => ?_) (fun c_662 => ?_)
      · have c_662_ := c_662
        refine lv_iconst (pc := 669) (v := iv 0) hx hb dL_law_669 rfl ?_
        refine c_callV (pc := 670) (y := yX5_fail) (As := [.int (iv i), .int (iv 0)]) (rest := []) hC hE hP hD hS hl.1 (c_m_fail l ε m0 ad n G ([(o, eJ ε 1 g)] ++ va_pl L2 f2) i 0 ri (Or.inl rfl) hI.2.1 hI.2.2.1 ⟨hI.2.2.2.2.1.1.1, by omega⟩) m_15_4 m_15_5 m_15_6 m_0_5 m_15_7 wM_o rfl hd_yX5_fail rfl ⟨⟨by decide, by decide⟩, (by show 40 + 20 * k + 8 + 0 ≤ 601024; omega), (by show 5000 + 3400 * k + 1100 + 0 ≤ 7293034; omega)⟩ (Nat.le_of_ble_eq_true rfl) rfl dL_law_670 kxN (fun v9 w9 H locs hq hP hD hS => ?_)
        rcases hq with hq | hq | hq
        · obtain ⟨hd9, hv_, hw_⟩ := hq
          clear hC hE hK hx hb hI hR hR2 nx hP hD hS hl hX
          exfalso
          omega
        · obtain ⟨hd9, hv_, hw_⟩ := hq
          rw [hw_] at hP hD
          rw [hv_]
          clear hv_ hw_
          dsimp only [Option.toList, List.cons_append, List.nil_append]
          refine lv_istore (lv' := [(6, .int (iv 0)), (5, .int (iv 2)), (4, .int (iv (7 * (k : Int)))), (0, .ref b), (1, .ref x), (2, .ref m0), (3, .ref o)]) (pc := 673) hx hb dL_law_673 hl (by decide) rfl (fun ls hl => ?_)
          refine lv_aload_n (pc := 675) hx hb dL_law_675 rfl (lv_at hl 5 rfl) ?_
          refine c_callV (pc := 676) (y := yX5_thrown) (As := []) (rest := []) hC hE hP hD hS hl.1 (c_m_thrown l ε m0 ad (va_up n 5 2) G ([(o, eJ ε 1 g)] ++ va_pl L2 f2)) m_3_8 m_3_9 m_3_10 m_0_5 m_3_11 wM_o rfl hd_yX5_thrown rfl ⟨⟨by decide, by decide⟩, (by show 40 + 20 * k + 8 + 0 + 0 ≤ 601024; omega), (by show 5000 + 3400 * k + 1100 + 0 + 0 ≤ 7293034; omega)⟩ (Nat.le_of_ble_eq_true rfl) rfl dL_law_676 kxN (fun v9 w9 H locs hq hP hD hS => ?_)
          rw [hq.2] at hP hD
          rw [hq.1]
          dsimp only [Option.toList, List.cons_append, List.nil_append]
          rw [show (va_up n 5 2) 5 = 2 from rfl]
          refine lv_iload (pc := 679) hx hb dL_law_679 (lv_at hl 1 rfl) ?_
          refine r_icmp_eq (pc := 681) (a := 2) (b := 2) hx hb dL_law_681 (tgt := 686) (by decide) ⟨by omega, by omega⟩ ⟨by omega, by omega⟩ (fun c_681 => ?_) (fun c_681 => ?_)
          · have c_681_ := c_681
            refine lv_iload (pc := 686) hx hb dL_law_686 (lv_at hl 1 rfl) ?_
            refine r_if_ne (pc := 688) (a := 2) hx hb dL_law_688 (tgt := 703) (by decide) ⟨by omega, by omega⟩ (fun c_688 => ?_) (fun c_688 => ?_)
            · have c_688_ := c_688
              refine lv_goto (pc := 703) (tgt := 1396) hx hb dL_law_703 (by decide) ?_
              refine W.widen (k := 40 + 20 * (k + 1)) (n := 5000 + 3400 * (k + 1)) (by show 40 + 20 * k + 8 + 0 + 0 ≤ _; omega) (by show 5000 + 3400 * k + 1100 + 0 + 0 ≤ _; omega) ?_
              exact nx (va_up n 5 2) G g L2 f2 ρ2 _ _ _ ⟨INV.n5 hI, (show n 3 ≤ ((k + 1 : Nat) : Int) by omega), RX.num hR2 rfl rfl rfl rfl rfl⟩ hP hD hS (lv_sub hl [2, 3, 4, 5, 6] rfl)
            · exact absurd c_688 (by decide)
          · exact absurd c_681 (by decide)
        · obtain ⟨hd9, hv_, hw_⟩ := hq
          clear hC hE hK hx hb hI hR hR2 nx hP hD hS hl hX
          exfalso
          omega
      · have c_662_ := c_662
        exact absurd c_635 c_662
  · have c_635_ := c_635
    refine lv_iconst (pc := 638) (v := iv 1) hx hb dL_law_638 rfl ?_
    refine lv_goto (pc := 639) (tgt := 643) hx hb dL_law_639 (by decide) ?_
    refine lv_aload_n (pc := 643) hx hb dL_law_643 rfl (lv_at hl 4 rfl) ?_
    replace hP : WP ε ((wM ε m0 ad n G ++ [(o, eJ ε 1 g)]) ++ va_pl L f) H := by rw [List.append_assoc]; exact hP
    replace hD : WD ε ((wM ε m0 ad n G ++ [(o, eJ ε 1 g)]) ++ va_pl L f) := by rw [List.append_assoc]; exact hD
    refine c_callSW (pc := 644) (y := yL_fail) (hh := [(0, 10, 13, 24), (0, 10, 17, 15)]) (As := [.ref x, .int (iv i), .int (iv 1), .ref o]) (rest := []) hC hE hP hD hS hl.1 (c_L_fail l ε (wM ε m0 ad n G) o g L f ρ hst x n G hR hI i 1 ri rg1 (Or.inr rfl) (show n 3 < 512 by omega)) m_14_22 m_14_23 m_2_9 m_14_24 hd_yL_fail rfl ⟨⟨by decide, by decide⟩, (by show 40 + 20 * k + 8 ≤ 601024; omega), (by show 5000 + 3400 * k + 1100 ≤ 7293034; omega)⟩ (Nat.le_of_ble_eq_true rfl) rfl dL_law_644 kxN (fun v9 w9 H locs hq hP hD hS => ?_)
    rcases hq with hq | hq | hq
    · obtain ⟨hc9, hv_, L2, f2, ρ2, hw_, hR2⟩ := hq
      rw [hw_, List.append_assoc] at hP hD
      rw [hv_]
      clear hv_ hw_
      dsimp only [Option.toList, List.cons_append, List.nil_append]
      refine lv_istore (lv' := [(5, .int (iv 0)), (4, .int (iv (7 * (k : Int)))), (0, .ref b), (1, .ref x), (2, .ref m0), (3, .ref o)]) (pc := 647) hx hb dL_law_647 hl (by decide) rfl (fun ls hl => ?_)
      refine lv_aload_n (pc := 649) hx hb dL_law_649 rfl (lv_at hl 4 rfl) ?_
      refine lv_aload_n (pc := 650) hx hb dL_law_650 rfl (lv_at hl 2 rfl) ?_
      refine lv_iload (pc := 651) hx hb dL_law_651 (lv_at hl 1 rfl) ?_
      refine lv_iconst (pc := 653) (v := iv 1) hx hb dL_law_653 rfl ?_
      refine r_iadd (pc := 654) (a := 7 * (k : Int)) (b := 1) hx hb dL_law_654 ?_
      refine r_sld (pc := 655) (z := (7 * (k : Int)) + 1) (v := i) hC hX hbl hbA hS ⟨by omega, by omega, by omega⟩ hz_i dL_law_655 ?_
      refine lv_aload_n (pc := 656) hx hb dL_law_656 rfl (lv_at hl 2 rfl) ?_
      refine lv_iload (pc := 657) hx hb dL_law_657 (lv_at hl 1 rfl) ?_
      refine lv_iconst (pc := 659) (v := iv 2) hx hb dL_law_659 rfl ?_
      refine r_iadd (pc := 660) (a := 7 * (k : Int)) (b := 2) hx hb dL_law_660 ?_
      refine r_sld (pc := 661) (z := (7 * (k : Int)) + 2) (v := fz) hC hX hbl hbA hS ⟨by omega, by omega, by omega⟩ hz_fz dL_law_661 ?_
      refine r_if_eq (pc := 662) (a := fz) hx hb dL_law_662 (tgt := 669) (by decide) ⟨by omega, by omega⟩ (fun c_662 => ?_) (fun c_662 => ?_)
      · have c_662_ := c_662
        exact absurd c_662 c_635
      · have c_662_ := c_662
        refine lv_iconst (pc := 665) (v := iv 1) hx hb dL_law_665 rfl ?_
        refine lv_goto (pc := 666) (tgt := 670) hx hb dL_law_666 (by decide) ?_
        refine c_callV (pc := 670) (y := yX5_fail) (As := [.int (iv i), .int (iv 1)]) (rest := []) hC hE hP hD hS hl.1 (c_m_fail l ε m0 ad n G ([(o, eJ ε 1 (va_up g 0 (n 3)))] ++ va_pl L2 f2) i 1 ri (Or.inr rfl) hI.2.1 hI.2.2.1 ⟨hI.2.2.2.2.1.1.1, by omega⟩) m_15_4 m_15_5 m_15_6 m_0_5 m_15_7 wM_o rfl hd_yX5_fail rfl ⟨⟨by decide, by decide⟩, (by show 40 + 20 * k + 8 + 0 ≤ 601024; omega), (by show 5000 + 3400 * k + 1100 + 0 ≤ 7293034; omega)⟩ (Nat.le_of_ble_eq_true rfl) rfl dL_law_670 kxN (fun v9 w9 H locs hq hP hD hS => ?_)
        rcases hq with hq | hq | hq
        · obtain ⟨hd9, hv_, hw_⟩ := hq
          clear hC hE hK hx hb hI hR hR2 nx hP hD hS hl hX
          exfalso
          omega
        · obtain ⟨hd9, hv_, hw_⟩ := hq
          clear hC hE hK hx hb hI hR hR2 nx hP hD hS hl hX
          exfalso
          omega
        · obtain ⟨hd9, hv_, hw_⟩ := hq
          rw [hw_] at hP hD
          rw [hv_]
          clear hv_ hw_
          dsimp only [Option.toList, List.cons_append, List.nil_append]
          refine lv_istore (lv' := [(6, .int (iv (n 3))), (5, .int (iv 0)), (4, .int (iv (7 * (k : Int)))), (0, .ref b), (1, .ref x), (2, .ref m0), (3, .ref o)]) (pc := 673) hx hb dL_law_673 hl (by decide) rfl (fun ls hl => ?_)
          refine lv_aload_n (pc := 675) hx hb dL_law_675 rfl (lv_at hl 5 rfl) ?_
          refine c_callV (pc := 676) (y := yX5_thrown) (As := []) (rest := []) hC hE hP hD hS hl.1 (c_m_thrown l ε m0 ad (va_up (va_up n 5 0) 3 (n 3 + 1)) (va_up (va_up G 10 (va_up (G 10) i.toNat 1)) 11 (va_up ((va_up G 10 (va_up (G 10) i.toNat 1)) 11) ((n 3).toNat) (NV (va_up G 10 (va_up (G 10) i.toNat 1)) i))) ([(o, eJ ε 1 (va_up g 0 (n 3)))] ++ va_pl L2 f2)) m_3_8 m_3_9 m_3_10 m_0_5 m_3_11 wM_o rfl hd_yX5_thrown rfl ⟨⟨by decide, by decide⟩, (by show 40 + 20 * k + 8 + 0 + 0 ≤ 601024; omega), (by show 5000 + 3400 * k + 1100 + 0 + 0 ≤ 7293034; omega)⟩ (Nat.le_of_ble_eq_true rfl) rfl dL_law_676 kxN (fun v9 w9 H locs hq hP hD hS => ?_)
          rw [hq.2] at hP hD
          rw [hq.1]
          dsimp only [Option.toList, List.cons_append, List.nil_append]
          rw [show (va_up (va_up n 5 0) 3 (n 3 + 1)) 5 = 0 from rfl]
          refine lv_iload (pc := 679) hx hb dL_law_679 (lv_at hl 1 rfl) ?_
          refine r_icmp_eq (pc := 681) (a := 0) (b := 0) hx hb dL_law_681 (tgt := 686) (by decide) ⟨by omega, by omega⟩ ⟨by omega, by omega⟩ (fun c_681 => ?_) (fun c_681 => ?_)
          · have c_681_ := c_681
            refine lv_iload (pc := 686) hx hb dL_law_686 (lv_at hl 1 rfl) ?_
            refine r_if_ne (pc := 688) (a := 0) hx hb dL_law_688 (tgt := 703) (by decide) ⟨by omega, by omega⟩ (fun c_688 => ?_) (fun c_688 => ?_)
            · exact absurd c_688 (by decide)
            · have c_688_ := c_688
              refine lv_aload_n (pc := 691) hx hb dL_law_691 rfl (lv_at hl 6 rfl) ?_
              refine lv_iconst (pc := 692) (v := iv 0) hx hb dL_law_692 rfl ?_
              refine r_jald (pc := 693) (z := 0) hC hK hP wM_out ⟨by decide, by decide, by decide⟩ dL_law_693 ?_
              rw [show (va_up g 0 (n 3)) (Int.toNat 0) = n 3 from va_up_self _ _ _]
              refine lv_iload (pc := 694) hx hb dL_law_694 (lv_at hl 0 rfl) ?_
              refine lv_i2l (pc := 696) (v := jv (n 3)) hx hb dL_law_696 (iv_long _ ⟨by omega, by omega⟩) ?_
              refine W.lcmp (pc := 697) (x := jv (n 3)) (y := jv (n 3)) hx hb dL_law_697 ?_
              rw [lg_cmp_jv ⟨by omega, by omega⟩ ⟨by omega, by omega⟩]
              have hcm_697 := cmpI_self (n 3)
              refine r_if_eq (pc := 698) (a := cmpI (n 3) (n 3)) hx hb dL_law_698 (tgt := 703) (by decide) ⟨by omega, by omega⟩ (fun c_698 => ?_) (fun c_698 => ?_)
              · have c_698_ := c_698
                refine lv_goto (pc := 703) (tgt := 1396) hx hb dL_law_703 (by decide) ?_
                refine W.widen (k := 40 + 20 * (k + 1)) (n := 5000 + 3400 * (k + 1)) (by show 40 + 20 * k + 8 + 0 + 0 ≤ _; omega) (by show 5000 + 3400 * k + 1100 + 0 + 0 ≤ _; omega) ?_
                exact nx (va_up (va_up n 5 0) 3 (n 3 + 1)) (va_up (va_up G 10 (va_up (G 10) i.toNat 1)) 11 (va_up ((va_up G 10 (va_up (G 10) i.toNat 1)) 11) ((n 3).toNat) (NV (va_up G 10 (va_up (G 10) i.toNat 1)) i))) (va_up g 0 (n 3)) L2 f2 ρ2 _ _ _ ⟨INV.tell (INV.fail (INV.n5 (c := 0) hI) hc9.1 (Or.inr rfl)) (i := i) hc9.1 (show n 3 < 512 by omega), (show n 3 + 1 ≤ ((k + 1 : Nat) : Int) by omega), RX.num hR2 rfl rfl rfl rfl rfl⟩ hP hD hS (lv_sub hl [2, 3, 4, 5, 6] rfl)
              · have c_698_ := c_698
                exact absurd (cmpI_self _) c_698
          · exact absurd c_681 (by decide)
    · obtain ⟨hc9, hv_, L2, f2, ρ2, hw_, hR2⟩ := hq
      rw [hw_, List.append_assoc] at hP hD
      rw [hv_]
      clear hv_ hw_
      dsimp only [Option.toList, List.cons_append, List.nil_append]
      refine lv_istore (lv' := [(5, .int (iv 1)), (4, .int (iv (7 * (k : Int)))), (0, .ref b), (1, .ref x), (2, .ref m0), (3, .ref o)]) (pc := 647) hx hb dL_law_647 hl (by decide) rfl (fun ls hl => ?_)
      refine lv_aload_n (pc := 649) hx hb dL_law_649 rfl (lv_at hl 4 rfl) ?_
      refine lv_aload_n (pc := 650) hx hb dL_law_650 rfl (lv_at hl 2 rfl) ?_
      refine lv_iload (pc := 651) hx hb dL_law_651 (lv_at hl 1 rfl) ?_
      refine lv_iconst (pc := 653) (v := iv 1) hx hb dL_law_653 rfl ?_
      refine r_iadd (pc := 654) (a := 7 * (k : Int)) (b := 1) hx hb dL_law_654 ?_
      refine r_sld (pc := 655) (z := (7 * (k : Int)) + 1) (v := i) hC hX hbl hbA hS ⟨by omega, by omega, by omega⟩ hz_i dL_law_655 ?_
      refine lv_aload_n (pc := 656) hx hb dL_law_656 rfl (lv_at hl 2 rfl) ?_
      refine lv_iload (pc := 657) hx hb dL_law_657 (lv_at hl 1 rfl) ?_
      refine lv_iconst (pc := 659) (v := iv 2) hx hb dL_law_659 rfl ?_
      refine r_iadd (pc := 660) (a := 7 * (k : Int)) (b := 2) hx hb dL_law_660 ?_
      refine r_sld (pc := 661) (z := (7 * (k : Int)) + 2) (v := fz) hC hX hbl hbA hS ⟨by omega, by omega, by omega⟩ hz_fz dL_law_661 ?_
      refine r_if_eq (pc := 662) (a := fz) hx hb dL_law_662 (tgt := 669) (by decide) ⟨by omega, by omega⟩ (fun c_662 => ?_) (fun c_662 => ?_)
      · have c_662_ := c_662
        exact absurd c_662 c_635
      · have c_662_ := c_662
        refine lv_iconst (pc := 665) (v := iv 1) hx hb dL_law_665 rfl ?_
        refine lv_goto (pc := 666) (tgt := 670) hx hb dL_law_666 (by decide) ?_
        refine c_callV (pc := 670) (y := yX5_fail) (As := [.int (iv i), .int (iv 1)]) (rest := []) hC hE hP hD hS hl.1 (c_m_fail l ε m0 ad n G ([(o, eJ ε 1 g)] ++ va_pl L2 f2) i 1 ri (Or.inr rfl) hI.2.1 hI.2.2.1 ⟨hI.2.2.2.2.1.1.1, by omega⟩) m_15_4 m_15_5 m_15_6 m_0_5 m_15_7 wM_o rfl hd_yX5_fail rfl ⟨⟨by decide, by decide⟩, (by show 40 + 20 * k + 8 + 0 ≤ 601024; omega), (by show 5000 + 3400 * k + 1100 + 0 ≤ 7293034; omega)⟩ (Nat.le_of_ble_eq_true rfl) rfl dL_law_670 kxN (fun v9 w9 H locs hq hP hD hS => ?_)
        rcases hq with hq | hq | hq
        · obtain ⟨hd9, hv_, hw_⟩ := hq
          rw [hw_] at hP hD
          rw [hv_]
          clear hv_ hw_
          dsimp only [Option.toList, List.cons_append, List.nil_append]
          refine lv_istore (lv' := [(6, .int (iv 0)), (5, .int (iv 1)), (4, .int (iv (7 * (k : Int)))), (0, .ref b), (1, .ref x), (2, .ref m0), (3, .ref o)]) (pc := 673) hx hb dL_law_673 hl (by decide) rfl (fun ls hl => ?_)
          refine lv_aload_n (pc := 675) hx hb dL_law_675 rfl (lv_at hl 5 rfl) ?_
          refine c_callV (pc := 676) (y := yX5_thrown) (As := []) (rest := []) hC hE hP hD hS hl.1 (c_m_thrown l ε m0 ad (va_up n 5 1) G ([(o, eJ ε 1 g)] ++ va_pl L2 f2)) m_3_8 m_3_9 m_3_10 m_0_5 m_3_11 wM_o rfl hd_yX5_thrown rfl ⟨⟨by decide, by decide⟩, (by show 40 + 20 * k + 8 + 0 + 0 ≤ 601024; omega), (by show 5000 + 3400 * k + 1100 + 0 + 0 ≤ 7293034; omega)⟩ (Nat.le_of_ble_eq_true rfl) rfl dL_law_676 kxN (fun v9 w9 H locs hq hP hD hS => ?_)
          rw [hq.2] at hP hD
          rw [hq.1]
          dsimp only [Option.toList, List.cons_append, List.nil_append]
          rw [show (va_up n 5 1) 5 = 1 from rfl]
          refine lv_iload (pc := 679) hx hb dL_law_679 (lv_at hl 1 rfl) ?_
          refine r_icmp_eq (pc := 681) (a := 1) (b := 1) hx hb dL_law_681 (tgt := 686) (by decide) ⟨by omega, by omega⟩ ⟨by omega, by omega⟩ (fun c_681 => ?_) (fun c_681 => ?_)
          · have c_681_ := c_681
            refine lv_iload (pc := 686) hx hb dL_law_686 (lv_at hl 1 rfl) ?_
            refine r_if_ne (pc := 688) (a := 1) hx hb dL_law_688 (tgt := 703) (by decide) ⟨by omega, by omega⟩ (fun c_688 => ?_) (fun c_688 => ?_)
            · have c_688_ := c_688
              refine lv_goto (pc := 703) (tgt := 1396) hx hb dL_law_703 (by decide) ?_
              refine W.widen (k := 40 + 20 * (k + 1)) (n := 5000 + 3400 * (k + 1)) (by show 40 + 20 * k + 8 + 0 + 0 ≤ _; omega) (by show 5000 + 3400 * k + 1100 + 0 + 0 ≤ _; omega) ?_
              exact nx (va_up n 5 1) G g L2 f2 ρ2 _ _ _ ⟨INV.n5 hI, (show n 3 ≤ ((k + 1 : Nat) : Int) by omega), RX.num hR2 rfl rfl rfl rfl rfl⟩ hP hD hS (lv_sub hl [2, 3, 4, 5, 6] rfl)
            · exact absurd c_688 (by decide)
          · exact absurd c_681 (by decide)
        · obtain ⟨hd9, hv_, hw_⟩ := hq
          clear hC hE hK hx hb hI hR hR2 nx hP hD hS hl hX
          exfalso
          omega
        · obtain ⟨hd9, hv_, hw_⟩ := hq
          clear hC hE hK hx hb hI hR hR2 nx hP hD hS hl hX
          exfalso
          omega
    · obtain ⟨hc9, hv_, L2, f2, ρ2, hw_, hR2⟩ := hq
      rw [hw_, List.append_assoc] at hP hD
      rw [hv_]
      clear hv_ hw_
      dsimp only [Option.toList, List.cons_append, List.nil_append]
      refine lv_istore (lv' := [(5, .int (iv 2)), (4, .int (iv (7 * (k : Int)))), (0, .ref b), (1, .ref x), (2, .ref m0), (3, .ref o)]) (pc := 647) hx hb dL_law_647 hl (by decide) rfl (fun ls hl => ?_)
      refine lv_aload_n (pc := 649) hx hb dL_law_649 rfl (lv_at hl 4 rfl) ?_
      refine lv_aload_n (pc := 650) hx hb dL_law_650 rfl (lv_at hl 2 rfl) ?_
      refine lv_iload (pc := 651) hx hb dL_law_651 (lv_at hl 1 rfl) ?_
      refine lv_iconst (pc := 653) (v := iv 1) hx hb dL_law_653 rfl ?_
      refine r_iadd (pc := 654) (a := 7 * (k : Int)) (b := 1) hx hb dL_law_654 ?_
      refine r_sld (pc := 655) (z := (7 * (k : Int)) + 1) (v := i) hC hX hbl hbA hS ⟨by omega, by omega, by omega⟩ hz_i dL_law_655 ?_
      refine lv_aload_n (pc := 656) hx hb dL_law_656 rfl (lv_at hl 2 rfl) ?_
      refine lv_iload (pc := 657) hx hb dL_law_657 (lv_at hl 1 rfl) ?_
      refine lv_iconst (pc := 659) (v := iv 2) hx hb dL_law_659 rfl ?_
      refine r_iadd (pc := 660) (a := 7 * (k : Int)) (b := 2) hx hb dL_law_660 ?_
      refine r_sld (pc := 661) (z := (7 * (k : Int)) + 2) (v := fz) hC hX hbl hbA hS ⟨by omega, by omega, by omega⟩ hz_fz dL_law_661 ?_
      refine r_if_eq (pc := 662) (a := fz) hx hb dL_law_662 (tgt := 669) (by decide) ⟨by omega, by omega⟩ (fun c_662 => ?_) (fun c_662 => ?_)
      · have c_662_ := c_662
        exact absurd c_662 c_635
      · have c_662_ := c_662
        refine lv_iconst (pc := 665) (v := iv 1) hx hb dL_law_665 rfl ?_
        refine lv_goto (pc := 666) (tgt := 670) hx hb dL_law_666 (by decide) ?_
        refine c_callV (pc := 670) (y := yX5_fail) (As := [.int (iv i), .int (iv 1)]) (rest := []) hC hE hP hD hS hl.1 (c_m_fail l ε m0 ad n G ([(o, eJ ε 1 g)] ++ va_pl L2 f2) i 1 ri (Or.inr rfl) hI.2.1 hI.2.2.1 ⟨hI.2.2.2.2.1.1.1, by omega⟩) m_15_4 m_15_5 m_15_6 m_0_5 m_15_7 wM_o rfl hd_yX5_fail rfl ⟨⟨by decide, by decide⟩, (by show 40 + 20 * k + 8 + 0 ≤ 601024; omega), (by show 5000 + 3400 * k + 1100 + 0 ≤ 7293034; omega)⟩ (Nat.le_of_ble_eq_true rfl) rfl dL_law_670 kxN (fun v9 w9 H locs hq hP hD hS => ?_)
        rcases hq with hq | hq | hq
        · obtain ⟨hd9, hv_, hw_⟩ := hq
          clear hC hE hK hx hb hI hR hR2 nx hP hD hS hl hX
          exfalso
          omega
        · obtain ⟨hd9, hv_, hw_⟩ := hq
          rw [hw_] at hP hD
          rw [hv_]
          clear hv_ hw_
          dsimp only [Option.toList, List.cons_append, List.nil_append]
          refine lv_istore (lv' := [(6, .int (iv 0)), (5, .int (iv 2)), (4, .int (iv (7 * (k : Int)))), (0, .ref b), (1, .ref x), (2, .ref m0), (3, .ref o)]) (pc := 673) hx hb dL_law_673 hl (by decide) rfl (fun ls hl => ?_)
          refine lv_aload_n (pc := 675) hx hb dL_law_675 rfl (lv_at hl 5 rfl) ?_
          refine c_callV (pc := 676) (y := yX5_thrown) (As := []) (rest := []) hC hE hP hD hS hl.1 (c_m_thrown l ε m0 ad (va_up n 5 2) G ([(o, eJ ε 1 g)] ++ va_pl L2 f2)) m_3_8 m_3_9 m_3_10 m_0_5 m_3_11 wM_o rfl hd_yX5_thrown rfl ⟨⟨by decide, by decide⟩, (by show 40 + 20 * k + 8 + 0 + 0 ≤ 601024; omega), (by show 5000 + 3400 * k + 1100 + 0 + 0 ≤ 7293034; omega)⟩ (Nat.le_of_ble_eq_true rfl) rfl dL_law_676 kxN (fun v9 w9 H locs hq hP hD hS => ?_)
          rw [hq.2] at hP hD
          rw [hq.1]
          dsimp only [Option.toList, List.cons_append, List.nil_append]
          rw [show (va_up n 5 2) 5 = 2 from rfl]
          refine lv_iload (pc := 679) hx hb dL_law_679 (lv_at hl 1 rfl) ?_
          refine r_icmp_eq (pc := 681) (a := 2) (b := 2) hx hb dL_law_681 (tgt := 686) (by decide) ⟨by omega, by omega⟩ ⟨by omega, by omega⟩ (fun c_681 => ?_) (fun c_681 => ?_)
          · have c_681_ := c_681
            refine lv_iload (pc := 686) hx hb dL_law_686 (lv_at hl 1 rfl) ?_
            refine r_if_ne (pc := 688) (a := 2) hx hb dL_law_688 (tgt := 703) (by decide) ⟨by omega, by omega⟩ (fun c_688 => ?_) (fun c_688 => ?_)
            · have c_688_ := c_688
              refine lv_goto (pc := 703) (tgt := 1396) hx hb dL_law_703 (by decide) ?_
              refine W.widen (k := 40 + 20 * (k + 1)) (n := 5000 + 3400 * (k + 1)) (by show 40 + 20 * k + 8 + 0 + 0 ≤ _; omega) (by show 5000 + 3400 * k + 1100 + 0 + 0 ≤ _; omega) ?_
              exact nx (va_up n 5 2) G g L2 f2 ρ2 _ _ _ ⟨INV.n5 hI, (show n 3 ≤ ((k + 1 : Nat) : Int) by omega), RX.num hR2 rfl rfl rfl rfl rfl⟩ hP hD hS (lv_sub hl [2, 3, 4, 5, 6] rfl)
            · exact absurd c_688 (by decide)
          · exact absurd c_681 (by decide)
        · obtain ⟨hd9, hv_, hw_⟩ := hq
          clear hC hE hK hx hb hI hR hR2 nx hP hD hS hl hX
          exfalso
          omega
