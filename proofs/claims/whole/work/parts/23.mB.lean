abbrev rm_c_m_isLight : Room := { frames := 0, cells := 0, slots := 0, locals := 0 }
set_option maxRecDepth 100000 in
set_option maxHeartbeats 4000000 in
theorem c_m_isLight (l : Launch) (ε : EV) (m0 : Nat) (ad : Nat → Nat) (n : Nat → Int) (G : Nat → Nat → Int) (R : va_W) (q t : Int) (hp : 0 ≤ q ∧ q < 20) (hv : PQ G q) (ht : 0 ≤ t ∧ t < 1000000) : CT l yX5_isLight cX5_isLight 5 (some .boolean) rm_c_m_isLight ε [.ref m0, .int (iv q), .int (iv t)] (wM ε m0 ad n G ++ R) (fun v w => v = some (.int (iv (bz (LQ G q t)))) ∧ w = wM ε m0 ad n G ++ R) NX := by
  refine CT.intro (by decide +kernel) (Nat.le_of_ble_eq_true rfl) ?_
  intro p9 e9 s9 m9 a9 bl9 me9 c9 ls Q9 hC hE hP hD hl hQ
  have hx := hC.1
  have hb := hC.2.1
  have hK := hE.K
  have hS : WS ε s9.heap s9.heap [] := va_S.rf
  have hl : lv_has ls 5 [(0, .ref m0), (1, .int (iv q)), (2, .int (iv t))] := hl
  obtain ⟨H, hH⟩ : ∃ H, H = s9.heap := ⟨_, rfl⟩
  obtain ⟨locs, hlo⟩ : ∃ z : List Loc, z = [] := ⟨_, rfl⟩
  rw [← hH] at hP ⊢
  have hS : WS ε s9.heap H locs := by rw [hH, hlo]; exact hS
  rw [← hlo]
  clear hH hlo
  have hper := hv.per
  unfold PQ at hv
  generalize hcc : cq G q = c at hv
  refine lv_iload_n (pc := 0) hx hb dX5_isLight_0 rfl (lv_at hl 2 rfl) ?_
  refine lv_aload_n (pc := 1) hx hb dX5_isLight_1 rfl (lv_at hl 0 rfl) ?_
  refine r_get (pc := 2) hC hK hP wM_o (hc := rfl) (fun w h => wt_1 w h) 5 (by decide) m_1_20 (fun _ h => h) (v := .ref (ad 3)) rfl dX5_isLight_2 ?_
  refine lv_iload_n (pc := 5) hx hb dX5_isLight_5 rfl (lv_at hl 1 rfl) ?_
  refine r_iald (pc := 6) (z := q) hC hK hP wM_3 ⟨by omega, by omega, by decide⟩ dX5_isLight_6 ?_
  refine r_irem (pc := 7) (a := t) (b := G 3 q.toNat) hx hb dX5_isLight_7 ⟨⟨by omega, by omega⟩, by omega, by omega⟩ ?_
  have hm_7 := Int.emod_nonneg t (show (G 3 q.toNat) ≠ 0 by omega)
  have hn_7 := Int.emod_lt_of_pos t (show 0 < (G 3 q.toNat) by omega)
  refine lv_istore_n (lv' := [(3, .int (iv (t % (G 3 q.toNat)))), (0, .ref m0), (1, .int (iv q)), (2, .int (iv t))]) (pc := 8) hx hb dX5_isLight_8 rfl hl (by decide) rfl (fun ls hl => ?_)
  refine lv_iconst (pc := 9) (v := iv 0) hx hb dX5_isLight_9 rfl ?_
  refine lv_istore (lv' := [(4, .int (iv 0)), (3, .int (iv (t % (G 3 q.toNat)))), (0, .ref m0), (1, .int (iv q)), (2, .int (iv t))]) (pc := 10) hx hb dX5_isLight_10 hl (by decide) rfl (fun ls hl => ?_)
  have lp_12 : ∀ (k9 : Nat) (f : Nat) (k : Int) (r : Int) (hk : k + f = c ∧ 0 ≤ k) (hr : 0 ≤ r ∧ r < sf (ph G q) f k) (he : litF (ph G q) f k r = LQ G q t) , (f) < k9 → ∀ (H : Heap) (locs : List Loc) (ls : Array Slot), WP ε (wM ε m0 ad n G ++ R) H → WD ε (wM ε m0 ad n G ++ R) → WS ε s9.heap H locs → lv_has ls 5 [(0, .ref m0), (1, .int (iv q)), (3, .int (iv r)), (4, .int (iv k))] → W p9 l e9 rm_c_m_isLight s9 m9 a9 bl9 me9 c9 H locs 0 0 Q9 (F0 m9 12 ls []) := by
    intro k9
    induction k9 with
    | zero => intro f k r hk hr he h9; exact absurd h9 (Nat.not_lt_zero _)
    | succ k9 ih_12 =>
      intro f k r hk hr he h9 H locs ls hP hD hS hl
      obtain ⟨g, rfl⟩ := sf_pos hr.1 hr.2
      have hph : ph G q k = G 1 (6 * q + k).toNat := rfl
      have hc6 := hv.1
      have hd9 : 1 ≤ G 1 (6 * q + k).toNat ∧ G 1 (6 * q + k).toNat ≤ 9 := hv.2.1 k (by omega) (by omega)
      have hr1 := hr.1
      have hr3 := hr.2
      have hbd := (sf_bd hv.2.1 (g + 1) k (by omega) (by omega)).2
      refine lv_iload_n (pc := 12) hx hb dX5_isLight_12 rfl (lv_at hl 2 rfl) ?_
      refine lv_aload_n (pc := 13) hx hb dX5_isLight_13 rfl (lv_at hl 0 rfl) ?_
      refine r_get (pc := 14) hC hK hP wM_o (hc := rfl) (fun w h => wt_1 w h) 3 (by decide) m_1_18 (fun _ h => h) (v := .ref (ad 1)) rfl dX5_isLight_14 ?_
      refine lv_bipush (pc := 17) (v := iv 6) hx hb dX5_isLight_17 (by decide) ?_
      refine lv_iload_n (pc := 19) hx hb dX5_isLight_19 rfl (lv_at hl 1 rfl) ?_
      refine r_imul (pc := 20) (a := 6) (b := q) hx hb dX5_isLight_20 ?_
      refine lv_iload (pc := 21) hx hb dX5_isLight_21 (lv_at hl 3 rfl) ?_
      refine r_iadd (pc := 23) (a := 6 * q) (b := k) hx hb dX5_isLight_23 ?_
      refine r_iald (pc := 24) (z := (6 * q) + k) hC hK hP wM_1 ⟨by omega, by omega, by decide⟩ dX5_isLight_24 ?_
      refine r_icmp_lt (pc := 25) (a := r) (b := G 1 ((6 * q) + k).toNat) hx hb dX5_isLight_25 (tgt := 49) (by decide) ⟨by omega, by omega⟩ ⟨by omega, by omega⟩ (fun c_25 => ?_) (fun c_25 => ?_)
      · have c_25_ := c_25
        have he2 : decide (k % 2 = 0) = LQ G q t := by rw [litF, if_pos (show r < ph G q k from c_25)] at he; exact he
        refine lv_iload (pc := 49) hx hb dX5_isLight_49 (lv_at hl 3 rfl) ?_
        refine lv_iconst (pc := 51) (v := iv 2) hx hb dX5_isLight_51 rfl ?_
        refine r_irem (pc := 52) (a := k) (b := 2) hx hb dX5_isLight_52 ⟨⟨by omega, by omega⟩, by omega, by omega⟩ ?_
        have hm_52 := Int.emod_nonneg k (show 2 ≠ 0 by omega)
        have hn_52 := Int.emod_lt_of_pos k (show 0 < 2 by omega)
        refine r_if_ne (pc := 53) (a := k % 2) hx hb dX5_isLight_53 (tgt := 60) (by decide) ⟨by omega, by omega⟩ (fun c_53 => ?_) (fun c_53 => ?_)
        · have c_53_ := c_53
          refine lv_iconst (pc := 60) (v := iv 0) hx hb dX5_isLight_60 rfl ?_
          refine c_zret (pc := 61) hC hQ hP hD hS (by decide) (by decide) dX5_isLight_61 nz_0 ?_
          exact ⟨congrArg (fun z => some (Value.int z)) (bz_0 (by rw [← he2]; exact decide_eq_false (by omega))), rfl⟩
        · have c_53_ := c_53
          refine lv_iconst (pc := 56) (v := iv 1) hx hb dX5_isLight_56 rfl ?_
          refine lv_goto (pc := 57) (tgt := 61) hx hb dX5_isLight_57 (by decide) ?_
          refine c_zret (pc := 61) hC hQ hP hD hS (by decide) (by decide) dX5_isLight_61 nz_1 ?_
          exact ⟨congrArg (fun z => some (Value.int z)) (bz_1 (by rw [← he2]; exact decide_eq_true (by omega))), rfl⟩
      · have c_25_ := c_25
        refine lv_iload_n (pc := 28) hx hb dX5_isLight_28 rfl (lv_at hl 2 rfl) ?_
        refine lv_aload_n (pc := 29) hx hb dX5_isLight_29 rfl (lv_at hl 0 rfl) ?_
        refine r_get (pc := 30) hC hK hP wM_o (hc := rfl) (fun w h => wt_1 w h) 3 (by decide) m_1_18 (fun _ h => h) (v := .ref (ad 1)) rfl dX5_isLight_30 ?_
        refine lv_bipush (pc := 33) (v := iv 6) hx hb dX5_isLight_33 (by decide) ?_
        refine lv_iload_n (pc := 35) hx hb dX5_isLight_35 rfl (lv_at hl 1 rfl) ?_
        refine r_imul (pc := 36) (a := 6) (b := q) hx hb dX5_isLight_36 ?_
        refine lv_iload (pc := 37) hx hb dX5_isLight_37 (lv_at hl 3 rfl) ?_
        refine r_iadd (pc := 39) (a := 6 * q) (b := k) hx hb dX5_isLight_39 ?_
        refine r_iald (pc := 40) (z := (6 * q) + k) hC hK hP wM_1 ⟨by omega, by omega, by decide⟩ dX5_isLight_40 ?_
        refine r_isub (pc := 41) (a := r) (b := G 1 ((6 * q) + k).toNat) hx hb dX5_isLight_41 ?_
        refine lv_istore_n (lv' := [(3, .int (iv (r - (G 1 ((6 * q) + k).toNat)))), (0, .ref m0), (1, .int (iv q)), (4, .int (iv k))]) (pc := 42) hx hb dX5_isLight_42 rfl hl (by decide) rfl (fun ls hl => ?_)
        refine lv_iinc (v := iv (k + 1)) (lv' := [(4, .int (iv (k + 1))), (3, .int (iv (r - (G 1 ((6 * q) + k).toNat)))), (0, .ref m0), (1, .int (iv q))]) (pc := 43) hx hb dX5_isLight_43 hl (k := 3) rfl (iv_add _ _) (by decide) rfl (fun ls hl => ?_)
        refine lv_goto (pc := 46) (tgt := 12) hx hb dX5_isLight_46 (by decide) ?_
        exact ih_12 g (k + 1) (r - (G 1 ((6 * q) + k).toNat)) (by omega) (by have h9 := hr.2; rw [sf] at h9; exact ⟨by omega, by omega⟩) (by rw [litF, if_neg (show ¬ r < ph G q k by omega)] at he; exact he) (by omega) _ _ _ hP hD hS (lv_sub hl [2, 3, 1, 0] rfl)
  exact lp_12 _ c 0 (t % (G 3 q.toNat)) (by omega) (by rw [← hv.2.2]; exact ⟨Int.emod_nonneg _ (by omega), Int.emod_lt_of_pos _ (by omega)⟩) (by unfold LQ lt; rw [hcc]) (Nat.lt_succ_self _) _ _ _ hP hD hS (lv_sub hl [2, 3, 1, 0] rfl)

abbrev rm_c_m_returns : Room := { frames := 1, cells := 0, slots := 0, locals := 30 }
set_option maxRecDepth 100000 in
set_option maxHeartbeats 4000000 in
theorem c_m_returns (l : Launch) (ε : EV) (m0 : Nat) (ad : Nat → Nat) (n : Nat → Int) (G : Nat → Nat → Int) (R : va_W) (q : Int) (hp : 0 ≤ q ∧ q < 20) (hv : PQ G q) : CT l yX5_returns cX5_returns 6 (some .int) rm_c_m_returns ε [.ref m0, .int (iv q)] (wM ε m0 ad n G ++ R) (fun v w => v = some (.int (iv (retn (LQ G q) (G 3 q.toNat)))) ∧ w = wM ε m0 ad n G ++ R) NX := by
  refine CT.intro (by decide +kernel) (Nat.le_of_ble_eq_true rfl) ?_
  intro p9 e9 s9 m9 a9 bl9 me9 c9 ls Q9 hC hE hP hD hl hQ
  have hx := hC.1
  have hb := hC.2.1
  have hK := hE.K
  have hS : WS ε s9.heap s9.heap [] := va_S.rf
  have hl : lv_has ls 6 [(0, .ref m0), (1, .int (iv q))] := hl
  obtain ⟨H, hH⟩ : ∃ H, H = s9.heap := ⟨_, rfl⟩
  obtain ⟨locs, hlo⟩ : ∃ z : List Loc, z = [] := ⟨_, rfl⟩
  rw [← hH] at hP ⊢
  have hS : WS ε s9.heap H locs := by rw [hH, hlo]; exact hS
  rw [← hlo]
  clear hH hlo
  have hper := hv.per
  refine lv_aload_n (pc := 0) hx hb dX5_returns_0 rfl (lv_at hl 0 rfl) ?_
  refine r_get (pc := 1) hC hK hP wM_o (hc := rfl) (fun w h => wt_1 w h) 5 (by decide) m_1_20 (fun _ h => h) (v := .ref (ad 3)) rfl dX5_returns_1 ?_
  refine lv_iload_n (pc := 4) hx hb dX5_returns_4 rfl (lv_at hl 1 rfl) ?_
  refine r_iald (pc := 5) (z := q) hC hK hP wM_3 ⟨by omega, by omega, by decide⟩ dX5_returns_5 ?_
  refine lv_istore_n (lv' := [(2, .int (iv (G 3 q.toNat))), (0, .ref m0), (1, .int (iv q))]) (pc := 6) hx hb dX5_returns_6 rfl hl (by decide) rfl (fun ls hl => ?_)
  refine lv_iconst (pc := 7) (v := iv 1) hx hb dX5_returns_7 rfl ?_
  refine lv_istore_n (lv' := [(3, .int (iv 1)), (2, .int (iv (G 3 q.toNat))), (0, .ref m0), (1, .int (iv q))]) (pc := 8) hx hb dX5_returns_8 rfl hl (by decide) rfl (fun ls hl => ?_)
  have lp_9 : ∀ (k9 : Nat) (kf : Nat) (d : Int) (hd : 1 ≤ d ∧ d + kf = G 3 q.toNat) (he : retF (LQ G q) (G 3 q.toNat) kf d = retn (LQ G q) (G 3 q.toNat)) , (kf) < k9 → ∀ (H : Heap) (locs : List Loc) (ls : Array Slot), WP ε (wM ε m0 ad n G ++ R) H → WD ε (wM ε m0 ad n G ++ R) → WS ε s9.heap H locs → lv_has ls 6 [(0, .ref m0), (1, .int (iv q)), (2, .int (iv (G 3 q.toNat))), (3, .int (iv d))] → W p9 l e9 rm_c_m_returns s9 m9 a9 bl9 me9 c9 H locs 0 0 Q9 (F0 m9 9 ls []) := by
    intro k9
    induction k9 with
    | zero => intro kf d hd he h9; exact absurd h9 (Nat.not_lt_zero _)
    | succ k9 ih_9 =>
      intro kf d hd he h9 H locs ls hP hD hS hl
      refine lv_iload_n (pc := 9) hx hb dX5_returns_9 rfl (lv_at hl 3 rfl) ?_
      refine lv_iload_n (pc := 10) hx hb dX5_returns_10 rfl (lv_at hl 2 rfl) ?_
      refine r_icmp_ge (pc := 11) (a := d) (b := G 3 q.toNat) hx hb dX5_returns_11 (tgt := 86) (by decide) ⟨by omega, by omega⟩ ⟨by omega, by omega⟩ (fun c_11 => ?_) (fun c_11 => ?_)
      · have c_11_ := c_11
        have hret : G 3 q.toNat = retn (LQ G q) (G 3 q.toNat) := by
         have h9 : kf = 0 := by omega
         subst h9
         exact he
        refine lv_iload_n (pc := 86) hx hb dX5_returns_86 rfl (lv_at hl 2 rfl) ?_
        refine c_iret (pc := 87) hC hQ hP hD hS (by decide) (by decide) dX5_returns_87 ?_
        exact ⟨congrArg (fun z => some (Value.int (iv z))) hret, rfl⟩
      · have c_11_ := c_11
        obtain ⟨kg, rfl⟩ : ∃ kg, kf = kg + 1 := ⟨kf - 1, by omega⟩
        have lp_25 : ∀ (bb : Bool) (hb9 : bb = true ↔ G 3 q.toNat % d = 0), ∀ (H : Heap) (locs : List Loc) (ls : Array Slot), WP ε (wM ε m0 ad n G ++ R) H → WD ε (wM ε m0 ad n G ++ R) → WS ε s9.heap H locs → lv_has ls 6 [(0, .ref m0), (1, .int (iv q)), (2, .int (iv (G 3 q.toNat))), (3, .int (iv d))] → W p9 l e9 rm_c_m_returns s9 m9 a9 bl9 me9 c9 H locs 0 0 Q9 (F0 m9 25 ls [.int (iv (bz bb))]) := by
          intro bb hb9 H locs ls hP hD hS hl
          refine lv_istore (lv' := [(4, .int (iv (bz bb))), (0, .ref m0), (1, .int (iv q)), (2, .int (iv (G 3 q.toNat))), (3, .int (iv d))]) (pc := 25) hx hb dX5_returns_25 hl (by decide) rfl (fun ls hl => ?_)
          refine lv_iconst (pc := 27) (v := iv 0) hx hb dX5_returns_27 rfl ?_
          refine lv_istore (lv' := [(5, .int (iv 0)), (4, .int (iv (bz bb))), (0, .ref m0), (1, .int (iv q)), (2, .int (iv (G 3 q.toNat))), (3, .int (iv d))]) (pc := 28) hx hb dX5_returns_28 hl (by decide) rfl (fun ls hl => ?_)
          have lp_30 : ∀ (k9 : Nat) (is : Bool) (u : Int) (hu : 0 ≤ u ∧ u ≤ G 3 q.toNat) (hi : is = true ↔ (G 3 q.toNat % d = 0 ∧ ALLb (fun u9 => LQ G q u9 = LQ G q (u9 + d)) u)) , ((G 3 q.toNat - u).toNat) < k9 → ∀ (H : Heap) (locs : List Loc) (ls : Array Slot), WP ε (wM ε m0 ad n G ++ R) H → WD ε (wM ε m0 ad n G ++ R) → WS ε s9.heap H locs → lv_has ls 6 [(0, .ref m0), (1, .int (iv q)), (2, .int (iv (G 3 q.toNat))), (3, .int (iv d)), (4, .int (iv (bz is))), (5, .int (iv u))] → W p9 l e9 rm_c_m_returns s9 m9 a9 bl9 me9 c9 H locs 0 0 Q9 (F0 m9 30 ls []) := by
            intro k9
            induction k9 with
            | zero => intro is u hu hi h9; exact absurd h9 (Nat.not_lt_zero _)
            | succ k9 ih_30 =>
              intro is u hu hi h9 H locs ls hP hD hS hl
              refine lv_iload (pc := 30) hx hb dX5_returns_30 (lv_at hl 5 rfl) ?_
              refine lv_iload_n (pc := 32) hx hb dX5_returns_32 rfl (lv_at hl 2 rfl) ?_
              refine r_icmp_ge (pc := 33) (a := u) (b := G 3 q.toNat) hx hb dX5_returns_33 (tgt := 73) (by decide) ⟨by omega, by omega⟩ ⟨by omega, by omega⟩ (fun c_33 => ?_) (fun c_33 => ?_)
              · have c_33_ := c_33
                refine lv_iload (pc := 73) hx hb dX5_returns_73 (lv_at hl 4 rfl) ?_
                refine r_if_b0 (pc := 75) (b := is) hx hb dX5_returns_75 (tgt := 80) (by decide)  (fun c_75 => ?_) (fun c_75 => ?_)
                · have c_75_ := c_75
                  have hbk : retF (LQ G q) (G 3 q.toNat) kg (d + 1) = retn (LQ G q) (G 3 q.toNat) := by
                   have h8 : ¬ okR (LQ G q) (G 3 q.toNat) d := fun z => by
                    have h7 : is = true := hi.mpr ⟨z.1, fun u9 h1 h2 => z.2 u9 h1 (by omega)⟩
                    exact absurd (h7.symm.trans c_75) (by decide)
                   rw [retF, tb_f h8] at he
                   exact he
                  refine lv_iinc (v := iv (d + 1)) (lv' := [(3, .int (iv (d + 1))), (0, .ref m0), (1, .int (iv q)), (2, .int (iv (G 3 q.toNat))), (4, .int (iv (bz is))), (5, .int (iv u))]) (pc := 80) hx hb dX5_returns_80 hl (k := 3) rfl (iv_add _ _) (by decide) rfl (fun ls hl => ?_)
                  refine lv_goto (pc := 83) (tgt := 9) hx hb dX5_returns_83 (by decide) ?_
                  exact ih_9 kg (d + 1) (by omega) hbk (by omega) _ _ _ hP hD hS (lv_sub hl [1, 2, 3, 0] rfl)
                · have c_75_ := c_75
                  have hret : d = retn (LQ G q) (G 3 q.toNat) := by
                   have h8 := hi.mp c_75
                   rw [retF, if_pos (tb_t (show okR (LQ G q) (G 3 q.toNat) d from ⟨h8.1, h8.2.eq (by omega)⟩))] at he
                   exact he
                  refine lv_iload_n (pc := 78) hx hb dX5_returns_78 rfl (lv_at hl 3 rfl) ?_
                  refine c_iret (pc := 79) hC hQ hP hD hS (by decide) (by decide) dX5_returns_79 ?_
                  exact ⟨congrArg (fun z => some (Value.int (iv z))) hret, rfl⟩
              · have c_33_ := c_33
                refine lv_iload (pc := 36) hx hb dX5_returns_36 (lv_at hl 4 rfl) ?_
                refine r_if_b0 (pc := 38) (b := is) hx hb dX5_returns_38 (tgt := 73) (by decide)  (fun c_38 => ?_) (fun c_38 => ?_)
                · have c_38_ := c_38
                  refine lv_iload (pc := 73) hx hb dX5_returns_73 (lv_at hl 4 rfl) ?_
                  refine r_if_b0 (pc := 75) (b := is) hx hb dX5_returns_75 (tgt := 80) (by decide)  (fun c_75 => ?_) (fun c_75 => ?_)
                  · have c_75_ := c_75
                    have hbk : retF (LQ G q) (G 3 q.toNat) kg (d + 1) = retn (LQ G q) (G 3 q.toNat) := by
                     have h8 : ¬ okR (LQ G q) (G 3 q.toNat) d := fun z => by
                      have h7 : is = true := hi.mpr ⟨z.1, fun u9 h1 h2 => z.2 u9 h1 (by omega)⟩
                      exact absurd (h7.symm.trans c_75) (by decide)
                     rw [retF, tb_f h8] at he
                     exact he
                    refine lv_iinc (v := iv (d + 1)) (lv' := [(3, .int (iv (d + 1))), (0, .ref m0), (1, .int (iv q)), (2, .int (iv (G 3 q.toNat))), (4, .int (iv (bz is))), (5, .int (iv u))]) (pc := 80) hx hb dX5_returns_80 hl (k := 3) rfl (iv_add _ _) (by decide) rfl (fun ls hl => ?_)
                    refine lv_goto (pc := 83) (tgt := 9) hx hb dX5_returns_83 (by decide) ?_
                    exact ih_9 kg (d + 1) (by omega) hbk (by omega) _ _ _ hP hD hS (lv_sub hl [1, 2, 3, 0] rfl)
                  · have c_75_ := c_75
                    exact absurd (c_38.symm.trans c_75) (by decide)
                · have c_38_ := c_38
                  refine lv_aload_n (pc := 41) hx hb dX5_returns_41 rfl (lv_at hl 0 rfl) ?_
                  refine lv_iload_n (pc := 42) hx hb dX5_returns_42 rfl (lv_at hl 1 rfl) ?_
                  refine lv_iload (pc := 43) hx hb dX5_returns_43 (lv_at hl 5 rfl) ?_
                  refine c_callV (pc := 45) (y := yX5_isLight) (As := [.int (iv q), .int (iv u)]) (rest := []) hC hE hP hD hS hl.1 (c_m_isLight l ε m0 ad n G R (q) (u) hp hv ⟨by omega, by omega⟩) m_10_7 m_10_8 m_10_9 m_0_5 m_10_10 wM_o rfl hd_yX5_isLight rfl ⟨⟨by decide, by decide⟩, by decide, by decide⟩ (Nat.le_of_ble_eq_true rfl) rfl dX5_returns_45 kxN (fun v ws1 H locs hq hP hD hS => ?_)
                  rw [hq.2] at hP hD
                  rw [hq.1]
                  dsimp only [Option.toList, List.cons_append, List.nil_append]
                  refine lv_aload_n (pc := 48) hx hb dX5_returns_48 rfl (lv_at hl 0 rfl) ?_
                  refine lv_iload_n (pc := 49) hx hb dX5_returns_49 rfl (lv_at hl 1 rfl) ?_
                  refine lv_iload (pc := 50) hx hb dX5_returns_50 (lv_at hl 5 rfl) ?_
                  refine lv_iload_n (pc := 52) hx hb dX5_returns_52 rfl (lv_at hl 3 rfl) ?_
                  refine r_iadd (pc := 53) (a := u) (b := d) hx hb dX5_returns_53 ?_
                  refine c_callV (pc := 54) (y := yX5_isLight) (As := [.int (iv q), .int (iv (u + d))]) (rest := [.int (iv (bz (LQ G q u)))]) hC hE hP hD hS hl.1 (c_m_isLight l ε m0 ad n G R (q) (u + d) hp hv ⟨by omega, by omega⟩) m_10_7 m_10_8 m_10_9 m_0_5 m_10_10 wM_o rfl hd_yX5_isLight rfl ⟨⟨by decide, by decide⟩, by decide, by decide⟩ (Nat.le_of_ble_eq_true rfl) rfl dX5_returns_54 kxN (fun v ws1 H locs hq hP hD hS => ?_)
                  rw [hq.2] at hP hD
                  rw [hq.1]
                  dsimp only [Option.toList, List.cons_append, List.nil_append]
                  refine r_icmp_ne (pc := 57) (a := bz (LQ G q u)) (b := bz (LQ G q (u + d))) hx hb dX5_returns_57 (tgt := 64) (by decide) (bz_rg _) (bz_rg _) (fun c_57 => ?_) (fun c_57 => ?_)
                  · have c_57_ := c_57
                    refine lv_iconst (pc := 64) (v := iv 0) hx hb dX5_returns_64 rfl ?_
                    refine lv_istore (lv' := [(4, .int (iv 0)), (0, .ref m0), (1, .int (iv q)), (2, .int (iv (G 3 q.toNat))), (3, .int (iv d)), (5, .int (iv u))]) (pc := 65) hx hb dX5_returns_65 hl (by decide) rfl (fun ls hl => ?_)
                    refine lv_iinc (v := iv (u + 1)) (lv' := [(5, .int (iv (u + 1))), (4, .int (iv 0)), (0, .ref m0), (1, .int (iv q)), (2, .int (iv (G 3 q.toNat))), (3, .int (iv d))]) (pc := 67) hx hb dX5_returns_67 hl (k := 5) rfl (iv_add _ _) (by decide) rfl (fun ls hl => ?_)
                    refine lv_goto (pc := 70) (tgt := 30) hx hb dX5_returns_70 (by decide) ?_
                    exact ih_30 false (u + 1) (by omega) (al_f (P := fun u9 => LQ G q u9 = LQ G q (u9 + d)) (by omega) (fun z => c_57 (congrArg bz z))) (by omega) _ _ _ hP hD hS (lv_sub hl [2, 3, 4, 5, 1, 0] rfl)
                  · have c_57_ := c_57
                    refine lv_iconst (pc := 60) (v := iv 1) hx hb dX5_returns_60 rfl ?_
                    refine lv_goto (pc := 61) (tgt := 65) hx hb dX5_returns_61 (by decide) ?_
                    refine lv_istore (lv' := [(4, .int (iv 1)), (0, .ref m0), (1, .int (iv q)), (2, .int (iv (G 3 q.toNat))), (3, .int (iv d)), (5, .int (iv u))]) (pc := 65) hx hb dX5_returns_65 hl (by decide) rfl (fun ls hl => ?_)
                    refine lv_iinc (v := iv (u + 1)) (lv' := [(5, .int (iv (u + 1))), (4, .int (iv 1)), (0, .ref m0), (1, .int (iv q)), (2, .int (iv (G 3 q.toNat))), (3, .int (iv d))]) (pc := 67) hx hb dX5_returns_67 hl (k := 5) rfl (iv_add _ _) (by decide) rfl (fun ls hl => ?_)
                    refine lv_goto (pc := 70) (tgt := 30) hx hb dX5_returns_70 (by decide) ?_
                    exact ih_30 true (u + 1) (by omega) (al_t (P := fun u9 => LQ G q u9 = LQ G q (u9 + d)) hu.1 hi c_38 (bz_inj (by omega))) (by omega) _ _ _ hP hD hS (lv_sub hl [2, 3, 4, 5, 1, 0] rfl)
          exact lp_30 _ bb 0 (by omega) (hb9.trans ⟨fun z => ⟨z, ALLb.zero (by omega)⟩, fun z => z.1⟩) (Nat.lt_succ_self _) _ _ _ hP hD hS (lv_sub hl [2, 3, 4, 5, 1, 0] rfl)
        refine lv_iload_n (pc := 14) hx hb dX5_returns_14 rfl (lv_at hl 2 rfl) ?_
        refine lv_iload_n (pc := 15) hx hb dX5_returns_15 rfl (lv_at hl 3 rfl) ?_
        refine r_irem (pc := 16) (a := G 3 q.toNat) (b := d) hx hb dX5_returns_16 ⟨⟨by omega, by omega⟩, by omega, by omega⟩ ?_
        have hm_16 := Int.emod_nonneg (G 3 q.toNat) (show d ≠ 0 by omega)
        have hn_16 := Int.emod_lt_of_pos (G 3 q.toNat) (show 0 < d by omega)
        refine r_if_ne (pc := 17) (a := (G 3 q.toNat) % d) hx hb dX5_returns_17 (tgt := 24) (by decide) ⟨by omega, by omega⟩ (fun c_17 => ?_) (fun c_17 => ?_)
        · have c_17_ := c_17
          refine lv_iconst (pc := 24) (v := iv 0) hx hb dX5_returns_24 rfl ?_
          exact lp_25 false ⟨fun z => (by cases z), fun z => absurd z c_17⟩ _ _ _ hP hD hS (lv_sub hl [0, 1, 2, 3] rfl)
        · have c_17_ := c_17
          refine lv_iconst (pc := 20) (v := iv 1) hx hb dX5_returns_20 rfl ?_
          refine lv_goto (pc := 21) (tgt := 25) hx hb dX5_returns_21 (by decide) ?_
          exact lp_25 true ⟨fun _ => (by omega), fun _ => rfl⟩ _ _ _ hP hD hS (lv_sub hl [0, 1, 2, 3] rfl)
  exact lp_9 _ (((G 3 q.toNat) - 1).toNat) 1 (by omega) rfl (Nat.lt_succ_self _) _ _ _ hP hD hS (lv_sub hl [2, 3, 1, 0] rfl)

abbrev rm_c_m_alike : Room := { frames := 2, cells := 0, slots := 0, locals := 60 }
set_option maxRecDepth 100000 in
set_option maxHeartbeats 4000000 in
theorem c_m_alike (l : Launch) (ε : EV) (m0 : Nat) (ad : Nat → Nat) (n : Nat → Int) (G : Nat → Nat → Int) (R : va_W) (q r : Int) (hp : 0 ≤ q ∧ q < 20) (hv : PQ G q) (hp2 : 0 ≤ r ∧ r < 20) (hv2 : PQ G r) : CT l yX5_alike cX5_alike 8 (some .boolean) rm_c_m_alike ε [.ref m0, .int (iv q), .int (iv r)] (wM ε m0 ad n G ++ R) (fun v w => v = some (.int (iv (bz (tb (AK (LQ G q) (LQ G r) (G 3 q.toNat) (G 3 r.toNat)))))) ∧ w = wM ε m0 ad n G ++ R) NX := by
  refine CT.intro (by decide +kernel) (Nat.le_of_ble_eq_true rfl) ?_
  intro p9 e9 s9 m9 a9 bl9 me9 c9 ls Q9 hC hE hP hD hl hQ
  have hx := hC.1
  have hb := hC.2.1
  have hK := hE.K
  have hS : WS ε s9.heap s9.heap [] := va_S.rf
  have hl : lv_has ls 8 [(0, .ref m0), (1, .int (iv q)), (2, .int (iv r))] := hl
  obtain ⟨H, hH⟩ : ∃ H, H = s9.heap := ⟨_, rfl⟩
  obtain ⟨locs, hlo⟩ : ∃ z : List Loc, z = [] := ⟨_, rfl⟩
  rw [← hH] at hP ⊢
  have hS : WS ε s9.heap H locs := by rw [hH, hlo]; exact hS
  rw [← hlo]
  clear hH hlo
  have hper := hv.per
  have hper2 := hv2.per
  have hrb := retn_bd (f := LQ G q) (per := G 3 q.toNat) (by omega)
  have hrb2 := retn_bd (f := LQ G r) (per := G 3 r.toNat) (by omega)
  refine lv_aload_n (pc := 0) hx hb dX5_alike_0 rfl (lv_at hl 0 rfl) ?_
  refine lv_iload_n (pc := 1) hx hb dX5_alike_1 rfl (lv_at hl 1 rfl) ?_
  refine c_callV (pc := 2) (y := yX5_returns) (As := [.int (iv q)]) (rest := []) hC hE hP hD hS hl.1 (c_m_returns l ε m0 ad n G R (q) hp hv) m_10_3 m_10_4 m_10_5 m_0_5 m_10_6 wM_o rfl hd_yX5_returns rfl ⟨⟨by decide, by decide⟩, by decide, by decide⟩ (Nat.le_of_ble_eq_true rfl) rfl dX5_alike_2 kxN (fun v ws1 H locs hq hP hD hS => ?_)
  rw [hq.2] at hP hD
  rw [hq.1]
  dsimp only [Option.toList, List.cons_append, List.nil_append]
  refine lv_istore_n (lv' := [(3, .int (iv (retn (LQ G q) (G 3 q.toNat)))), (0, .ref m0), (1, .int (iv q)), (2, .int (iv r))]) (pc := 5) hx hb dX5_alike_5 rfl hl (by decide) rfl (fun ls hl => ?_)
  refine lv_iconst (pc := 6) (v := iv 0) hx hb dX5_alike_6 rfl ?_
  refine lv_istore (lv' := [(4, .int (iv 0)), (3, .int (iv (retn (LQ G q) (G 3 q.toNat)))), (0, .ref m0), (1, .int (iv q)), (2, .int (iv r))]) (pc := 7) hx hb dX5_alike_7 hl (by decide) rfl (fun ls hl => ?_)
  refine lv_iconst (pc := 9) (v := iv 0) hx hb dX5_alike_9 rfl ?_
  refine lv_istore (lv' := [(5, .int (iv 0)), (4, .int (iv 0)), (3, .int (iv (retn (LQ G q) (G 3 q.toNat)))), (0, .ref m0), (1, .int (iv q)), (2, .int (iv r))]) (pc := 10) hx hb dX5_alike_10 hl (by decide) rfl (fun ls hl => ?_)
  have lp_12 : ∀ (k9 : Nat) (fd : Bool) (t : Int) (ht : 0 ≤ t ∧ t ≤ retn (LQ G q) (G 3 q.toNat)) (hf : fd = true ↔ EXb (fun t9 => retn (LQ G q) (G 3 q.toNat) = retn (LQ G r) (G 3 r.toNat) ∧ ALLb (fun u9 => LQ G q (u9 + t9) = LQ G r u9) (retn (LQ G q) (G 3 q.toNat))) t) , ((retn (LQ G q) (G 3 q.toNat) - t).toNat) < k9 → ∀ (H : Heap) (locs : List Loc) (ls : Array Slot), WP ε (wM ε m0 ad n G ++ R) H → WD ε (wM ε m0 ad n G ++ R) → WS ε s9.heap H locs → lv_has ls 8 [(0, .ref m0), (1, .int (iv q)), (2, .int (iv r)), (3, .int (iv (retn (LQ G q) (G 3 q.toNat)))), (4, .int (iv (bz fd))), (5, .int (iv t))] → W p9 l e9 rm_c_m_alike s9 m9 a9 bl9 me9 c9 H locs 0 0 Q9 (F0 m9 12 ls []) := by
    intro k9
    induction k9 with
    | zero => intro fd t ht hf h9; exact absurd h9 (Nat.not_lt_zero _)
    | succ k9 ih_12 =>
      intro fd t ht hf h9 H locs ls hP hD hS hl
      refine lv_iload (pc := 12) hx hb dX5_alike_12 (lv_at hl 5 rfl) ?_
      refine lv_iload_n (pc := 14) hx hb dX5_alike_14 rfl (lv_at hl 3 rfl) ?_
      refine r_icmp_ge (pc := 15) (a := t) (b := retn (LQ G q) (G 3 q.toNat)) hx hb dX5_alike_15 (tgt := 88) (by decide) ⟨by omega, by omega⟩ ⟨by omega, by omega⟩ (fun c_15 => ?_) (fun c_15 => ?_)
      · have c_15_ := c_15
        have hres : fd = true ↔ AK (LQ G q) (LQ G r) (G 3 q.toNat) (G 3 r.toNat) := by
         rw [hf]
         unfold AK
         constructor
         · rintro ⟨t9, h1, h2, h3, h4⟩
           exact ⟨h3, t9, h1, by omega, h4⟩
         · rintro ⟨h3, t9, h1, h2, h4⟩
           exact ⟨t9, h1, by omega, h3, h4⟩
        refine lv_iload (pc := 88) hx hb dX5_alike_88 (lv_at hl 4 rfl) ?_
        refine c_zret (pc := 90) hC hQ hP hD hS (by decide) (by decide) dX5_alike_90 (nz_b _) ?_
        exact ⟨congrArg (fun z => some (Value.int (iv (bz z)))) (tb_of hres), rfl⟩
      · have c_15_ := c_15
        refine lv_iload_n (pc := 18) hx hb dX5_alike_18 rfl (lv_at hl 3 rfl) ?_
        refine lv_aload_n (pc := 19) hx hb dX5_alike_19 rfl (lv_at hl 0 rfl) ?_
        refine lv_iload_n (pc := 20) hx hb dX5_alike_20 rfl (lv_at hl 2 rfl) ?_
        refine c_callV (pc := 21) (y := yX5_returns) (As := [.int (iv r)]) (rest := [.int (iv (retn (LQ G q) (G 3 q.toNat)))]) hC hE hP hD hS hl.1 (c_m_returns l ε m0 ad n G R (r) hp2 hv2) m_10_3 m_10_4 m_10_5 m_0_5 m_10_6 wM_o rfl hd_yX5_returns rfl ⟨⟨by decide, by decide⟩, by decide, by decide⟩ (Nat.le_of_ble_eq_true rfl) rfl dX5_alike_21 kxN (fun v ws1 H locs hq hP hD hS => ?_)
        rw [hq.2] at hP hD
        rw [hq.1]
        dsimp only [Option.toList, List.cons_append, List.nil_append]
        refine r_icmp_ne (pc := 24) (a := retn (LQ G q) (G 3 q.toNat)) (b := retn (LQ G r) (G 3 r.toNat)) hx hb dX5_alike_24 (tgt := 88) (by decide) ⟨by omega, by omega⟩ ⟨by omega, by omega⟩ (fun c_24 => ?_) (fun c_24 => ?_)
        · have c_24_ := c_24
          have hres : fd = true ↔ AK (LQ G q) (LQ G r) (G 3 q.toNat) (G 3 r.toNat) := by
           rw [hf]
           unfold AK
           constructor
           · rintro ⟨t9, h1, h2, h3, h4⟩
             exact ⟨h3, t9, h1, by omega, h4⟩
           · rintro ⟨h3, t9, h1, h2, h4⟩
             exact ⟨t9, h1, by omega, h3, h4⟩
          refine lv_iload (pc := 88) hx hb dX5_alike_88 (lv_at hl 4 rfl) ?_
          refine c_zret (pc := 90) hC hQ hP hD hS (by decide) (by decide) dX5_alike_90 (nz_b _) ?_
          exact ⟨congrArg (fun z => some (Value.int (iv (bz z)))) (tb_of hres), rfl⟩
        · have c_24_ := c_24
          refine lv_iconst (pc := 27) (v := iv 1) hx hb dX5_alike_27 rfl ?_
          refine lv_istore (lv' := [(6, .int (iv 1)), (0, .ref m0), (1, .int (iv q)), (2, .int (iv r)), (3, .int (iv (retn (LQ G q) (G 3 q.toNat)))), (4, .int (iv (bz fd))), (5, .int (iv t))]) (pc := 28) hx hb dX5_alike_28 hl (by decide) rfl (fun ls hl => ?_)
          refine lv_iconst (pc := 30) (v := iv 0) hx hb dX5_alike_30 rfl ?_
          refine lv_istore (lv' := [(7, .int (iv 0)), (6, .int (iv 1)), (0, .ref m0), (1, .int (iv q)), (2, .int (iv r)), (3, .int (iv (retn (LQ G q) (G 3 q.toNat)))), (4, .int (iv (bz fd))), (5, .int (iv t))]) (pc := 31) hx hb dX5_alike_31 hl (by decide) rfl (fun ls hl => ?_)
          have lp_33 : ∀ (k9 : Nat) (is : Bool) (u : Int) (hu : 0 ≤ u ∧ u ≤ retn (LQ G q) (G 3 q.toNat)) (hi : is = true ↔ ALLb (fun u9 => LQ G q (u9 + t) = LQ G r u9) u) , ((retn (LQ G q) (G 3 q.toNat) - u).toNat) < k9 → ∀ (H : Heap) (locs : List Loc) (ls : Array Slot), WP ε (wM ε m0 ad n G ++ R) H → WD ε (wM ε m0 ad n G ++ R) → WS ε s9.heap H locs → lv_has ls 8 [(0, .ref m0), (1, .int (iv q)), (2, .int (iv r)), (3, .int (iv (retn (LQ G q) (G 3 q.toNat)))), (4, .int (iv (bz fd))), (5, .int (iv t)), (6, .int (iv (bz is))), (7, .int (iv u))] → W p9 l e9 rm_c_m_alike s9 m9 a9 bl9 me9 c9 H locs 0 0 Q9 (F0 m9 33 ls []) := by
            intro k9
            induction k9 with
            | zero => intro is u hu hi h9; exact absurd h9 (Nat.not_lt_zero _)
            | succ k9 ih_33 =>
              intro is u hu hi h9 H locs ls hP hD hS hl
              refine lv_iload (pc := 33) hx hb dX5_alike_33 (lv_at hl 7 rfl) ?_
              refine lv_iload_n (pc := 35) hx hb dX5_alike_35 rfl (lv_at hl 3 rfl) ?_
              refine r_icmp_ge (pc := 36) (a := u) (b := retn (LQ G q) (G 3 q.toNat)) hx hb dX5_alike_36 (tgt := 75) (by decide) ⟨by omega, by omega⟩ ⟨by omega, by omega⟩ (fun c_36 => ?_) (fun c_36 => ?_)
              · have c_36_ := c_36
                refine lv_iload (pc := 75) hx hb dX5_alike_75 (lv_at hl 4 rfl) ?_
                refine lv_iload (pc := 77) hx hb dX5_alike_77 (lv_at hl 6 rfl) ?_
                refine lv_ior (pc := 79) (x := iv (bz fd)) (y := iv (bz is)) hx hb dX5_alike_79 ?_
                rw [bz_or]
                refine lv_istore (lv' := [(4, .int (iv (bz ((fd || is))))), (0, .ref m0), (1, .int (iv q)), (2, .int (iv r)), (3, .int (iv (retn (LQ G q) (G 3 q.toNat)))), (5, .int (iv t)), (6, .int (iv (bz is))), (7, .int (iv u))]) (pc := 80) hx hb dX5_alike_80 hl (by decide) rfl (fun ls hl => ?_)
                have hbk := ex_or (P := fun t9 => retn (LQ G q) (G 3 q.toNat) = retn (LQ G r) (G 3 r.toNat) ∧ ALLb (fun u9 => LQ G q (u9 + t9) = LQ G r u9) (retn (LQ G q) (G 3 q.toNat))) ht.1 hf (b := is) (hi.trans ⟨fun z => ⟨c_24, z.eq (by omega)⟩, fun z => z.2.eq (by omega)⟩)
                refine lv_iinc (v := iv (t + 1)) (lv' := [(5, .int (iv (t + 1))), (4, .int (iv (bz ((fd || is))))), (0, .ref m0), (1, .int (iv q)), (2, .int (iv r)), (3, .int (iv (retn (LQ G q) (G 3 q.toNat)))), (6, .int (iv (bz is))), (7, .int (iv u))]) (pc := 82) hx hb dX5_alike_82 hl (k := 5) rfl (iv_add _ _) (by decide) rfl (fun ls hl => ?_)
                refine lv_goto (pc := 85) (tgt := 12) hx hb dX5_alike_85 (by decide) ?_
                exact ih_12 ((fd || is)) (t + 1) (by omega) hbk (by omega) _ _ _ hP hD hS (lv_sub hl [2, 3, 4, 5, 1, 0] rfl)
              · have c_36_ := c_36
                have lp_66 : ∀ (bb : Bool) (hb9 : bb = true ↔ LQ G q (u + t) = LQ G r u), ∀ (H : Heap) (locs : List Loc) (ls : Array Slot), WP ε (wM ε m0 ad n G ++ R) H → WD ε (wM ε m0 ad n G ++ R) → WS ε s9.heap H locs → lv_has ls 8 [(0, .ref m0), (1, .int (iv q)), (2, .int (iv r)), (3, .int (iv (retn (LQ G q) (G 3 q.toNat)))), (4, .int (iv (bz fd))), (5, .int (iv t)), (6, .int (iv (bz is))), (7, .int (iv u))] → W p9 l e9 rm_c_m_alike s9 m9 a9 bl9 me9 c9 H locs 0 0 Q9 (F0 m9 66 ls [.int (iv (bz bb)), .int (iv (bz is))]) := by
                  intro bb hb9 H locs ls hP hD hS hl
                  refine lv_iand (pc := 66) (x := iv (bz is)) (y := iv (bz bb)) hx hb dX5_alike_66 ?_
                  rw [bz_and]
                  refine lv_istore (lv' := [(6, .int (iv (bz ((is && bb))))), (0, .ref m0), (1, .int (iv q)), (2, .int (iv r)), (3, .int (iv (retn (LQ G q) (G 3 q.toNat)))), (4, .int (iv (bz fd))), (5, .int (iv t)), (7, .int (iv u))]) (pc := 67) hx hb dX5_alike_67 hl (by decide) rfl (fun ls hl => ?_)
                  refine lv_iinc (v := iv (u + 1)) (lv' := [(7, .int (iv (u + 1))), (6, .int (iv (bz ((is && bb))))), (0, .ref m0), (1, .int (iv q)), (2, .int (iv r)), (3, .int (iv (retn (LQ G q) (G 3 q.toNat)))), (4, .int (iv (bz fd))), (5, .int (iv t))]) (pc := 69) hx hb dX5_alike_69 hl (k := 7) rfl (iv_add _ _) (by decide) rfl (fun ls hl => ?_)
                  refine lv_goto (pc := 72) (tgt := 33) hx hb dX5_alike_72 (by decide) ?_
                  exact ih_33 ((is && bb)) (u + 1) (by omega) (al_and (P := fun u9 => LQ G q (u9 + t) = LQ G r u9) (by omega) hi hb9) (by omega) _ _ _ hP hD hS (lv_sub hl [2, 3, 4, 5, 6, 7, 1, 0] rfl)
                refine lv_iload (pc := 39) hx hb dX5_alike_39 (lv_at hl 6 rfl) ?_
                refine lv_aload_n (pc := 41) hx hb dX5_alike_41 rfl (lv_at hl 0 rfl) ?_
                refine lv_iload_n (pc := 42) hx hb dX5_alike_42 rfl (lv_at hl 1 rfl) ?_
                refine lv_iload (pc := 43) hx hb dX5_alike_43 (lv_at hl 7 rfl) ?_
                refine lv_iload (pc := 45) hx hb dX5_alike_45 (lv_at hl 5 rfl) ?_
                refine r_iadd (pc := 47) (a := u) (b := t) hx hb dX5_alike_47 ?_
                refine c_callV (pc := 48) (y := yX5_isLight) (As := [.int (iv q), .int (iv (u + t))]) (rest := [.int (iv (bz is))]) hC hE hP hD hS hl.1 (c_m_isLight l ε m0 ad n G R (q) (u + t) hp hv ⟨by omega, by omega⟩) m_10_7 m_10_8 m_10_9 m_0_5 m_10_10 wM_o rfl hd_yX5_isLight rfl ⟨⟨by decide, by decide⟩, by decide, by decide⟩ (Nat.le_of_ble_eq_true rfl) rfl dX5_alike_48 kxN (fun v ws1 H locs hq hP hD hS => ?_)
                rw [hq.2] at hP hD
                rw [hq.1]
                dsimp only [Option.toList, List.cons_append, List.nil_append]
                refine lv_aload_n (pc := 51) hx hb dX5_alike_51 rfl (lv_at hl 0 rfl) ?_
                refine lv_iload_n (pc := 52) hx hb dX5_alike_52 rfl (lv_at hl 2 rfl) ?_
                refine lv_iload (pc := 53) hx hb dX5_alike_53 (lv_at hl 7 rfl) ?_
                refine c_callV (pc := 55) (y := yX5_isLight) (As := [.int (iv r), .int (iv u)]) (rest := [.int (iv (bz (LQ G q (u + t)))), .int (iv (bz is))]) hC hE hP hD hS hl.1 (c_m_isLight l ε m0 ad n G R (r) (u) hp2 hv2 ⟨by omega, by omega⟩) m_10_7 m_10_8 m_10_9 m_0_5 m_10_10 wM_o rfl hd_yX5_isLight rfl ⟨⟨by decide, by decide⟩, by decide, by decide⟩ (Nat.le_of_ble_eq_true rfl) rfl dX5_alike_55 kxN (fun v ws1 H locs hq hP hD hS => ?_)
                rw [hq.2] at hP hD
                rw [hq.1]
                dsimp only [Option.toList, List.cons_append, List.nil_append]
                refine r_icmp_ne (pc := 58) (a := bz (LQ G q (u + t))) (b := bz (LQ G r u)) hx hb dX5_alike_58 (tgt := 65) (by decide) (bz_rg _) (bz_rg _) (fun c_58 => ?_) (fun c_58 => ?_)
                · have c_58_ := c_58
                  refine lv_iconst (pc := 65) (v := iv 0) hx hb dX5_alike_65 rfl ?_
                  exact lp_66 false ⟨fun z => (by cases z), fun z => absurd (congrArg bz z) c_58⟩ _ _ _ hP hD hS (lv_sub hl [0, 1, 2, 3, 4, 5, 6, 7] rfl)
                · have c_58_ := c_58
                  refine lv_iconst (pc := 61) (v := iv 1) hx hb dX5_alike_61 rfl ?_
                  refine lv_goto (pc := 62) (tgt := 66) hx hb dX5_alike_62 (by decide) ?_
                  exact lp_66 true ⟨fun _ => bz_inj (by omega), fun _ => rfl⟩ _ _ _ hP hD hS (lv_sub hl [0, 1, 2, 3, 4, 5, 6, 7] rfl)
          exact lp_33 _ true 0 (by omega) ⟨fun _ => ALLb.zero (by omega), fun _ => rfl⟩ (Nat.lt_succ_self _) _ _ _ hP hD hS (lv_sub hl [2, 3, 4, 5, 6, 7, 1, 0] rfl)
  exact lp_12 _ false 0 (by omega) ⟨fun z => (by cases z), fun z => absurd z (EXb.zero (by omega))⟩ (Nat.lt_succ_self _) _ _ _ hP hD hS (lv_sub hl [3, 4, 5, 2, 1, 0] rfl)
