abbrev rm_c_m_sectorOf : Room := { frames := 0, cells := 0, slots := 0, locals := 0 }
set_option maxRecDepth 100000 in
set_option maxHeartbeats 4000000 in
theorem c_m_sectorOf (l : Launch) (ε : EV) (m0 : Nat) (ad : Nat → Nat) (n : Nat → Int) (G : Nat → Nat → Int) (R : va_W) (i x y : Int) (hi : 0 ≤ i ∧ i < 12) (hv : LV n G i) (hxy : (0 ≤ x ∧ x ≤ 31) ∧ 0 ≤ y ∧ y ≤ 31) : CT l yX5_sectorOf cX5_sectorOf 10 (some .int) rm_c_m_sectorOf ε [.ref m0, .int (iv i), .int (iv x), .int (iv y)] (wM ε m0 ad n G ++ R) (fun v w => v = some (.int (iv (sectP (x - G 4 i.toNat) (y - G 5 i.toNat)))) ∧ w = wM ε m0 ad n G ++ R) NX := by
  refine CT.intro (by decide +kernel) (Nat.le_of_ble_eq_true rfl) ?_
  intro p9 e9 s9 m9 a9 bl9 me9 c9 ls Q9 hC hE hP hD hl hQ
  have hx := hC.1
  have hb := hC.2.1
  have hK := hE.K
  have hS : WS ε s9.heap s9.heap [] := va_S.rf
  have hl : lv_has ls 10 [(0, .ref m0), (1, .int (iv i)), (2, .int (iv x)), (3, .int (iv y))] := hl
  obtain ⟨H, hH⟩ : ∃ H, H = s9.heap := ⟨_, rfl⟩
  obtain ⟨locs, hlo⟩ : ∃ z : List Loc, z = [] := ⟨_, rfl⟩
  rw [← hH] at hP ⊢
  have hS : WS ε s9.heap H locs := by rw [hH, hlo]; exact hS
  rw [← hlo]
  clear hH hlo
  obtain ⟨⟨h41, h42⟩, ⟨h51, h52⟩, ⟨h61, h62⟩, ⟨h71, h72⟩, ⟨h81, h82⟩, ⟨h91, h92⟩, h10⟩ := hv
  refine lv_iload_n (pc := 0) hx hb dX5_sectorOf_0 rfl (lv_at hl 2 rfl) ?_
  refine lv_aload_n (pc := 1) hx hb dX5_sectorOf_1 rfl (lv_at hl 0 rfl) ?_
  refine r_get (pc := 2) hC hK hP wM_o (hc := rfl) (fun w h => wt_1 w h) 7 (by decide) m_1_21 (fun _ h => h) (v := .ref (ad 4)) rfl dX5_sectorOf_2 ?_
  refine lv_iload_n (pc := 5) hx hb dX5_sectorOf_5 rfl (lv_at hl 1 rfl) ?_
  refine r_iald (pc := 6) (z := i) hC hK hP wM_4 ⟨by omega, by omega, by decide⟩ dX5_sectorOf_6 ?_
  refine r_isub (pc := 7) (a := x) (b := G 4 i.toNat) hx hb dX5_sectorOf_7 ?_
  refine lv_istore (lv' := [(4, .int (iv (x - (G 4 i.toNat)))), (0, .ref m0), (1, .int (iv i)), (2, .int (iv x)), (3, .int (iv y))]) (pc := 8) hx hb dX5_sectorOf_8 hl (by decide) rfl (fun ls hl => ?_)
  refine lv_iload_n (pc := 10) hx hb dX5_sectorOf_10 rfl (lv_at hl 4 rfl) ?_
  refine lv_aload_n (pc := 11) hx hb dX5_sectorOf_11 rfl (lv_at hl 1 rfl) ?_
  refine r_get (pc := 12) hC hK hP wM_o (hc := rfl) (fun w h => wt_1 w h) 8 (by decide) m_1_22 (fun _ h => h) (v := .ref (ad 5)) rfl dX5_sectorOf_12 ?_
  refine lv_iload_n (pc := 15) hx hb dX5_sectorOf_15 rfl (lv_at hl 2 rfl) ?_
  refine r_iald (pc := 16) (z := i) hC hK hP wM_5 ⟨by omega, by omega, by decide⟩ dX5_sectorOf_16 ?_
  refine r_isub (pc := 17) (a := y) (b := G 5 i.toNat) hx hb dX5_sectorOf_17 ?_
  refine lv_istore (lv' := [(5, .int (iv (y - (G 5 i.toNat)))), (4, .int (iv (x - (G 4 i.toNat)))), (0, .ref m0), (1, .int (iv i)), (2, .int (iv x)), (3, .int (iv y))]) (pc := 18) hx hb dX5_sectorOf_18 hl (by decide) rfl (fun ls hl => ?_)
  have lp_20 : ∀ (A : Int) (B : Int) (hA : A = x - G 4 i.toNat) (hB : B = y - G 5 i.toNat), ∀ (H : Heap) (locs : List Loc) (ls : Array Slot), WP ε (wM ε m0 ad n G ++ R) H → WD ε (wM ε m0 ad n G ++ R) → WS ε s9.heap H locs → lv_has ls 10 [(0, .ref m0), (1, .int (iv i)), (2, .int (iv x)), (3, .int (iv y)), (4, .int (iv A)), (5, .int (iv B))] → W p9 l e9 rm_c_m_sectorOf s9 m9 a9 bl9 me9 c9 H locs 0 0 Q9 (F0 m9 20 ls []) := by
    intro A B hA hB H locs ls hP hD hS hl
    refine lv_iload (pc := 20) hx hb dX5_sectorOf_20 (lv_at hl 4 rfl) ?_
    refine r_if_ne (pc := 22) (a := A) hx hb dX5_sectorOf_22 (tgt := 32) (by decide) ⟨by omega, by omega⟩ (fun c_22 => ?_) (fun c_22 => ?_)
    · have c_22_ := c_22
      have hn0 : ¬ (A = 0 ∧ B = 0) := by omega
      have lp_75 : ∀ (qd : Int) (hq : qd = qrt A B), ∀ (H : Heap) (locs : List Loc) (ls : Array Slot), WP ε (wM ε m0 ad n G ++ R) H → WD ε (wM ε m0 ad n G ++ R) → WS ε s9.heap H locs → lv_has ls 10 [(0, .ref m0), (1, .int (iv i)), (2, .int (iv x)), (3, .int (iv y)), (4, .int (iv A)), (5, .int (iv B))] → W p9 l e9 rm_c_m_sectorOf s9 m9 a9 bl9 me9 c9 H locs 0 0 Q9 (F0 m9 75 ls [.int (iv qd)]) := by
        intro qd hq H locs ls hP hD hS hl
        refine lv_istore (lv' := [(6, .int (iv qd)), (0, .ref m0), (1, .int (iv i)), (2, .int (iv x)), (3, .int (iv y)), (4, .int (iv A)), (5, .int (iv B))]) (pc := 75) hx hb dX5_sectorOf_75 hl (by decide) rfl (fun ls hl => ?_)
        have hqb := qrt_bd A B
        rw [← hq] at hqb
        have lp_90 : ∀ (wd : Int) (hw : wd = ab A), ∀ (H : Heap) (locs : List Loc) (ls : Array Slot), WP ε (wM ε m0 ad n G ++ R) H → WD ε (wM ε m0 ad n G ++ R) → WS ε s9.heap H locs → lv_has ls 10 [(0, .ref m0), (1, .int (iv i)), (2, .int (iv x)), (3, .int (iv y)), (4, .int (iv A)), (5, .int (iv B)), (6, .int (iv qd))] → W p9 l e9 rm_c_m_sectorOf s9 m9 a9 bl9 me9 c9 H locs 0 0 Q9 (F0 m9 90 ls [.int (iv wd)]) := by
          intro wd hw H locs ls hP hD hS hl
          refine lv_istore (lv' := [(7, .int (iv wd)), (0, .ref m0), (1, .int (iv i)), (2, .int (iv x)), (3, .int (iv y)), (4, .int (iv A)), (5, .int (iv B)), (6, .int (iv qd))]) (pc := 90) hx hb dX5_sectorOf_90 hl (by decide) rfl (fun ls hl => ?_)
          have lp_105 : ∀ (hg : Int) (hh : hg = ab B), ∀ (H : Heap) (locs : List Loc) (ls : Array Slot), WP ε (wM ε m0 ad n G ++ R) H → WD ε (wM ε m0 ad n G ++ R) → WS ε s9.heap H locs → lv_has ls 10 [(0, .ref m0), (1, .int (iv i)), (2, .int (iv x)), (3, .int (iv y)), (4, .int (iv A)), (5, .int (iv B)), (6, .int (iv qd)), (7, .int (iv wd))] → W p9 l e9 rm_c_m_sectorOf s9 m9 a9 bl9 me9 c9 H locs 0 0 Q9 (F0 m9 105 ls [.int (iv hg)]) := by
            intro hg hh H locs ls hP hD hS hl
            refine lv_istore (lv' := [(8, .int (iv hg)), (0, .ref m0), (1, .int (iv i)), (2, .int (iv x)), (3, .int (iv y)), (4, .int (iv A)), (5, .int (iv B)), (6, .int (iv qd)), (7, .int (iv wd))]) (pc := 105) hx hb dX5_sectorOf_105 hl (by decide) rfl (fun ls hl => ?_)
            have hwb : 0 ≤ wd ∧ wd ≤ 31 := by rw [hw]; unfold ab; split <;> omega
            have hgb : 0 ≤ hg ∧ hg ≤ 31 := by rw [hh]; unfold ab; split <;> omega
            have hmp : moreP A B ↔ (qd % 2 = 0 → wd ≤ hg) ∧ (qd % 2 ≠ 0 → hg ≤ wd) := by unfold moreP; rw [← hq, ← hw, ← hh]
            have lp_141 : ∀ (mo : Bool) (hm : mo = true ↔ moreP A B), ∀ (H : Heap) (locs : List Loc) (ls : Array Slot), WP ε (wM ε m0 ad n G ++ R) H → WD ε (wM ε m0 ad n G ++ R) → WS ε s9.heap H locs → lv_has ls 10 [(0, .ref m0), (1, .int (iv i)), (2, .int (iv x)), (3, .int (iv y)), (4, .int (iv A)), (5, .int (iv B)), (6, .int (iv qd)), (7, .int (iv wd)), (8, .int (iv hg))] → W p9 l e9 rm_c_m_sectorOf s9 m9 a9 bl9 me9 c9 H locs 0 0 Q9 (F0 m9 141 ls [.int (iv (bz mo))]) := by
              intro mo hm H locs ls hP hD hS hl
              refine lv_istore (lv' := [(9, .int (iv (bz mo))), (0, .ref m0), (1, .int (iv i)), (2, .int (iv x)), (3, .int (iv y)), (4, .int (iv A)), (5, .int (iv B)), (6, .int (iv qd)), (7, .int (iv wd)), (8, .int (iv hg))]) (pc := 141) hx hb dX5_sectorOf_141 hl (by decide) rfl (fun ls hl => ?_)
              refine lv_iconst (pc := 143) (v := iv 2) hx hb dX5_sectorOf_143 rfl ?_
              refine lv_iload (pc := 144) hx hb dX5_sectorOf_144 (lv_at hl 7 rfl) ?_
              refine r_imul (pc := 146) (a := 2) (b := qd) hx hb dX5_sectorOf_146 ?_
              refine lv_iload (pc := 147) hx hb dX5_sectorOf_147 (lv_at hl 0 rfl) ?_
              refine r_if_b0 (pc := 149) (b := mo) hx hb dX5_sectorOf_149 (tgt := 156) (by decide)  (fun c_149 => ?_) (fun c_149 => ?_)
              · have c_149_ := c_149
                refine lv_iconst (pc := 156) (v := iv 0) hx hb dX5_sectorOf_156 rfl ?_
                refine r_iadd (pc := 157) (a := 2 * qd) (b := 0) hx hb dX5_sectorOf_157 ?_
                have hres : (2 * qd) + 0 = sectP (x - G 4 i.toNat) (y - G 5 i.toNat) := by
                 rw [← hA, ← hB]
                 unfold sectP
                 rw [if_neg hn0, ← hq, ← tb_of hm, c_149]
                 rfl
                refine c_iret (pc := 158) hC hQ hP hD hS (by decide) (by decide) dX5_sectorOf_158 ?_
                exact ⟨congrArg (fun z => some (Value.int (iv z))) hres, rfl⟩
              · have c_149_ := c_149
                refine lv_iconst (pc := 152) (v := iv 1) hx hb dX5_sectorOf_152 rfl ?_
                refine lv_goto (pc := 153) (tgt := 157) hx hb dX5_sectorOf_153 (by decide) ?_
                refine r_iadd (pc := 157) (a := 2 * qd) (b := 1) hx hb dX5_sectorOf_157 ?_
                have hres : (2 * qd) + 1 = sectP (x - G 4 i.toNat) (y - G 5 i.toNat) := by
                 rw [← hA, ← hB]
                 unfold sectP
                 rw [if_neg hn0, ← hq, ← tb_of hm, c_149]
                 rfl
                refine c_iret (pc := 158) hC hQ hP hD hS (by decide) (by decide) dX5_sectorOf_158 ?_
                exact ⟨congrArg (fun z => some (Value.int (iv z))) hres, rfl⟩
            refine lv_iload (pc := 107) hx hb dX5_sectorOf_107 (lv_at hl 7 rfl) ?_
            refine lv_iconst (pc := 109) (v := iv 2) hx hb dX5_sectorOf_109 rfl ?_
            refine r_irem (pc := 110) (a := qd) (b := 2) hx hb dX5_sectorOf_110 ⟨⟨by omega, by omega⟩, by omega, by omega⟩ ?_
            have hm_110 := Int.emod_nonneg qd (show 2 ≠ 0 by omega)
            have hn_110 := Int.emod_lt_of_pos qd (show 0 < 2 by omega)
            refine r_if_ne (pc := 111) (a := qd % 2) hx hb dX5_sectorOf_111 (tgt := 129) (by decide) ⟨by omega, by omega⟩ (fun c_111 => ?_) (fun c_111 => ?_)
            · have c_111_ := c_111
              refine lv_iload (pc := 129) hx hb dX5_sectorOf_129 (lv_at hl 8 rfl) ?_
              refine lv_iload (pc := 131) hx hb dX5_sectorOf_131 (lv_at hl 0 rfl) ?_
              refine r_icmp_lt (pc := 133) (a := wd) (b := hg) hx hb dX5_sectorOf_133 (tgt := 140) (by decide) ⟨by omega, by omega⟩ ⟨by omega, by omega⟩ (fun c_133 => ?_) (fun c_133 => ?_)
              · have c_133_ := c_133
                refine lv_iconst (pc := 140) (v := iv 0) hx hb dX5_sectorOf_140 rfl ?_
                exact lp_141 false ⟨fun z => (by cases z), fun z => (by obtain ⟨z1, z2⟩ := hmp.mp z; omega)⟩ _ _ _ hP hD hS (lv_sub hl [1, 2, 3, 4, 5, 6, 7, 8, 0] rfl)
              · have c_133_ := c_133
                refine lv_iconst (pc := 136) (v := iv 1) hx hb dX5_sectorOf_136 rfl ?_
                refine lv_goto (pc := 137) (tgt := 141) hx hb dX5_sectorOf_137 (by decide) ?_
                exact lp_141 true ⟨fun _ => hmp.mpr ⟨fun z => (by omega), fun z => (by omega)⟩, fun _ => rfl⟩ _ _ _ hP hD hS (lv_sub hl [1, 2, 3, 4, 5, 6, 7, 8, 0] rfl)
            · have c_111_ := c_111
              refine lv_iload (pc := 114) hx hb dX5_sectorOf_114 (lv_at hl 0 rfl) ?_
              refine lv_iload (pc := 116) hx hb dX5_sectorOf_116 (lv_at hl 8 rfl) ?_
              refine r_icmp_lt (pc := 118) (a := hg) (b := wd) hx hb dX5_sectorOf_118 (tgt := 125) (by decide) ⟨by omega, by omega⟩ ⟨by omega, by omega⟩ (fun c_118 => ?_) (fun c_118 => ?_)
              · have c_118_ := c_118
                refine lv_iconst (pc := 125) (v := iv 0) hx hb dX5_sectorOf_125 rfl ?_
                refine lv_goto (pc := 126) (tgt := 141) hx hb dX5_sectorOf_126 (by decide) ?_
                exact lp_141 false ⟨fun z => (by cases z), fun z => (by obtain ⟨z1, z2⟩ := hmp.mp z; omega)⟩ _ _ _ hP hD hS (lv_sub hl [1, 2, 3, 4, 5, 6, 7, 8, 0] rfl)
              · have c_118_ := c_118
                refine lv_iconst (pc := 121) (v := iv 1) hx hb dX5_sectorOf_121 rfl ?_
                refine lv_goto (pc := 122) (tgt := 141) hx hb dX5_sectorOf_122 (by decide) ?_
                exact lp_141 true ⟨fun _ => hmp.mpr ⟨fun z => (by omega), fun z => (by omega)⟩, fun _ => rfl⟩ _ _ _ hP hD hS (lv_sub hl [1, 2, 3, 4, 5, 6, 7, 8, 0] rfl)
          refine lv_iload (pc := 92) hx hb dX5_sectorOf_92 (lv_at hl 6 rfl) ?_
          refine r_if_ge (pc := 94) (a := B) hx hb dX5_sectorOf_94 (tgt := 103) (by decide) ⟨by omega, by omega⟩ (fun c_94 => ?_) (fun c_94 => ?_)
          · have c_94_ := c_94
            refine lv_iload (pc := 103) hx hb dX5_sectorOf_103 (lv_at hl 6 rfl) ?_
            exact lp_105 B (by unfold ab; split <;> omega) _ _ _ hP hD hS (lv_sub hl [1, 2, 3, 4, 5, 6, 7, 0] rfl)
          · have c_94_ := c_94
            refine lv_iload (pc := 97) hx hb dX5_sectorOf_97 (lv_at hl 6 rfl) ?_
            refine r_ineg (pc := 99) (a := B) hx hb dX5_sectorOf_99 ?_
            refine lv_goto (pc := 100) (tgt := 105) hx hb dX5_sectorOf_100 (by decide) ?_
            exact lp_105 (-B) (by unfold ab; split <;> omega) _ _ _ hP hD hS (lv_sub hl [1, 2, 3, 4, 5, 6, 7, 0] rfl)
        refine lv_iload (pc := 77) hx hb dX5_sectorOf_77 (lv_at hl 5 rfl) ?_
        refine r_if_ge (pc := 79) (a := A) hx hb dX5_sectorOf_79 (tgt := 88) (by decide) ⟨by omega, by omega⟩ (fun c_79 => ?_) (fun c_79 => ?_)
        · have c_79_ := c_79
          refine lv_iload (pc := 88) hx hb dX5_sectorOf_88 (lv_at hl 5 rfl) ?_
          exact lp_90 A (by unfold ab; split <;> omega) _ _ _ hP hD hS (lv_sub hl [1, 2, 3, 4, 5, 6, 0] rfl)
        · have c_79_ := c_79
          refine lv_iload (pc := 82) hx hb dX5_sectorOf_82 (lv_at hl 5 rfl) ?_
          refine r_ineg (pc := 84) (a := A) hx hb dX5_sectorOf_84 ?_
          refine lv_goto (pc := 85) (tgt := 90) hx hb dX5_sectorOf_85 (by decide) ?_
          exact lp_90 (-A) (by unfold ab; split <;> omega) _ _ _ hP hD hS (lv_sub hl [1, 2, 3, 4, 5, 6, 0] rfl)
      refine lv_iload (pc := 32) hx hb dX5_sectorOf_32 (lv_at hl 4 rfl) ?_
      refine r_if_le (pc := 34) (a := A) hx hb dX5_sectorOf_34 (tgt := 46) (by decide) ⟨by omega, by omega⟩ (fun c_34 => ?_) (fun c_34 => ?_)
      · have c_34_ := c_34
        refine lv_iload (pc := 46) hx hb dX5_sectorOf_46 (lv_at hl 4 rfl) ?_
        refine r_if_gt (pc := 48) (a := A) hx hb dX5_sectorOf_48 (tgt := 60) (by decide) ⟨by omega, by omega⟩ (fun c_48 => ?_) (fun c_48 => ?_)
        · have c_48_ := c_48
          refine lv_iload (pc := 60) hx hb dX5_sectorOf_60 (lv_at hl 4 rfl) ?_
          refine r_if_ge (pc := 62) (a := A) hx hb dX5_sectorOf_62 (tgt := 74) (by decide) ⟨by omega, by omega⟩ (fun c_62 => ?_) (fun c_62 => ?_)
          · have c_62_ := c_62
            refine lv_iconst (pc := 74) (v := iv 3) hx hb dX5_sectorOf_74 rfl ?_
            exact lp_75 3 (by unfold qrt; repeat' split <;> omega) _ _ _ hP hD hS (lv_sub hl [0, 1, 2, 3, 4, 5] rfl)
          · have c_62_ := c_62
            refine lv_iload (pc := 65) hx hb dX5_sectorOf_65 (lv_at hl 5 rfl) ?_
            refine r_if_gt (pc := 67) (a := B) hx hb dX5_sectorOf_67 (tgt := 74) (by decide) ⟨by omega, by omega⟩ (fun c_67 => ?_) (fun c_67 => ?_)
            · have c_67_ := c_67
              refine lv_iconst (pc := 74) (v := iv 3) hx hb dX5_sectorOf_74 rfl ?_
              exact lp_75 3 (by unfold qrt; repeat' split <;> omega) _ _ _ hP hD hS (lv_sub hl [0, 1, 2, 3, 4, 5] rfl)
            · have c_67_ := c_67
              refine lv_iconst (pc := 70) (v := iv 2) hx hb dX5_sectorOf_70 rfl ?_
              refine lv_goto (pc := 71) (tgt := 75) hx hb dX5_sectorOf_71 (by decide) ?_
              exact lp_75 2 (by unfold qrt; repeat' split <;> omega) _ _ _ hP hD hS (lv_sub hl [0, 1, 2, 3, 4, 5] rfl)
        · have c_48_ := c_48
          refine lv_iload (pc := 51) hx hb dX5_sectorOf_51 (lv_at hl 5 rfl) ?_
          refine r_if_le (pc := 53) (a := B) hx hb dX5_sectorOf_53 (tgt := 60) (by decide) ⟨by omega, by omega⟩ (fun c_53 => ?_) (fun c_53 => ?_)
          · have c_53_ := c_53
            refine lv_iload (pc := 60) hx hb dX5_sectorOf_60 (lv_at hl 4 rfl) ?_
            refine r_if_ge (pc := 62) (a := A) hx hb dX5_sectorOf_62 (tgt := 74) (by decide) ⟨by omega, by omega⟩ (fun c_62 => ?_) (fun c_62 => ?_)
            · have c_62_ := c_62
              refine lv_iconst (pc := 74) (v := iv 3) hx hb dX5_sectorOf_74 rfl ?_
              exact lp_75 3 (by unfold qrt; repeat' split <;> omega) _ _ _ hP hD hS (lv_sub hl [0, 1, 2, 3, 4, 5] rfl)
            · have c_62_ := c_62
              refine lv_iload (pc := 65) hx hb dX5_sectorOf_65 (lv_at hl 5 rfl) ?_
              refine r_if_gt (pc := 67) (a := B) hx hb dX5_sectorOf_67 (tgt := 74) (by decide) ⟨by omega, by omega⟩ (fun c_67 => ?_) (fun c_67 => ?_)
              · have c_67_ := c_67
                refine lv_iconst (pc := 74) (v := iv 3) hx hb dX5_sectorOf_74 rfl ?_
                exact lp_75 3 (by unfold qrt; repeat' split <;> omega) _ _ _ hP hD hS (lv_sub hl [0, 1, 2, 3, 4, 5] rfl)
              · have c_67_ := c_67
                refine lv_iconst (pc := 70) (v := iv 2) hx hb dX5_sectorOf_70 rfl ?_
                refine lv_goto (pc := 71) (tgt := 75) hx hb dX5_sectorOf_71 (by decide) ?_
                exact lp_75 2 (by unfold qrt; repeat' split <;> omega) _ _ _ hP hD hS (lv_sub hl [0, 1, 2, 3, 4, 5] rfl)
          · have c_53_ := c_53
            refine lv_iconst (pc := 56) (v := iv 1) hx hb dX5_sectorOf_56 rfl ?_
            refine lv_goto (pc := 57) (tgt := 75) hx hb dX5_sectorOf_57 (by decide) ?_
            exact lp_75 1 (by unfold qrt; repeat' split <;> omega) _ _ _ hP hD hS (lv_sub hl [0, 1, 2, 3, 4, 5] rfl)
      · have c_34_ := c_34
        refine lv_iload (pc := 37) hx hb dX5_sectorOf_37 (lv_at hl 5 rfl) ?_
        refine r_if_lt (pc := 39) (a := B) hx hb dX5_sectorOf_39 (tgt := 46) (by decide) ⟨by omega, by omega⟩ (fun c_39 => ?_) (fun c_39 => ?_)
        · have c_39_ := c_39
          refine lv_iload (pc := 46) hx hb dX5_sectorOf_46 (lv_at hl 4 rfl) ?_
          refine r_if_gt (pc := 48) (a := A) hx hb dX5_sectorOf_48 (tgt := 60) (by decide) ⟨by omega, by omega⟩ (fun c_48 => ?_) (fun c_48 => ?_)
          · have c_48_ := c_48
            refine lv_iload (pc := 60) hx hb dX5_sectorOf_60 (lv_at hl 4 rfl) ?_
            refine r_if_ge (pc := 62) (a := A) hx hb dX5_sectorOf_62 (tgt := 74) (by decide) ⟨by omega, by omega⟩ (fun c_62 => ?_) (fun c_62 => ?_)
            · have c_62_ := c_62
              refine lv_iconst (pc := 74) (v := iv 3) hx hb dX5_sectorOf_74 rfl ?_
              exact lp_75 3 (by unfold qrt; repeat' split <;> omega) _ _ _ hP hD hS (lv_sub hl [0, 1, 2, 3, 4, 5] rfl)
            · have c_62_ := c_62
              refine lv_iload (pc := 65) hx hb dX5_sectorOf_65 (lv_at hl 5 rfl) ?_
              refine r_if_gt (pc := 67) (a := B) hx hb dX5_sectorOf_67 (tgt := 74) (by decide) ⟨by omega, by omega⟩ (fun c_67 => ?_) (fun c_67 => ?_)
              · have c_67_ := c_67
                refine lv_iconst (pc := 74) (v := iv 3) hx hb dX5_sectorOf_74 rfl ?_
                exact lp_75 3 (by unfold qrt; repeat' split <;> omega) _ _ _ hP hD hS (lv_sub hl [0, 1, 2, 3, 4, 5] rfl)
              · have c_67_ := c_67
                refine lv_iconst (pc := 70) (v := iv 2) hx hb dX5_sectorOf_70 rfl ?_
                refine lv_goto (pc := 71) (tgt := 75) hx hb dX5_sectorOf_71 (by decide) ?_
                exact lp_75 2 (by unfold qrt; repeat' split <;> omega) _ _ _ hP hD hS (lv_sub hl [0, 1, 2, 3, 4, 5] rfl)
          · have c_48_ := c_48
            refine lv_iload (pc := 51) hx hb dX5_sectorOf_51 (lv_at hl 5 rfl) ?_
            refine r_if_le (pc := 53) (a := B) hx hb dX5_sectorOf_53 (tgt := 60) (by decide) ⟨by omega, by omega⟩ (fun c_53 => ?_) (fun c_53 => ?_)
            · have c_53_ := c_53
              refine lv_iload (pc := 60) hx hb dX5_sectorOf_60 (lv_at hl 4 rfl) ?_
              refine r_if_ge (pc := 62) (a := A) hx hb dX5_sectorOf_62 (tgt := 74) (by decide) ⟨by omega, by omega⟩ (fun c_62 => ?_) (fun c_62 => ?_)
              · have c_62_ := c_62
                refine lv_iconst (pc := 74) (v := iv 3) hx hb dX5_sectorOf_74 rfl ?_
                exact lp_75 3 (by unfold qrt; repeat' split <;> omega) _ _ _ hP hD hS (lv_sub hl [0, 1, 2, 3, 4, 5] rfl)
              · have c_62_ := c_62
                refine lv_iload (pc := 65) hx hb dX5_sectorOf_65 (lv_at hl 5 rfl) ?_
                refine r_if_gt (pc := 67) (a := B) hx hb dX5_sectorOf_67 (tgt := 74) (by decide) ⟨by omega, by omega⟩ (fun c_67 => ?_) (fun c_67 => ?_)
                · have c_67_ := c_67
                  refine lv_iconst (pc := 74) (v := iv 3) hx hb dX5_sectorOf_74 rfl ?_
                  exact lp_75 3 (by unfold qrt; repeat' split <;> omega) _ _ _ hP hD hS (lv_sub hl [0, 1, 2, 3, 4, 5] rfl)
                · have c_67_ := c_67
                  refine lv_iconst (pc := 70) (v := iv 2) hx hb dX5_sectorOf_70 rfl ?_
                  refine lv_goto (pc := 71) (tgt := 75) hx hb dX5_sectorOf_71 (by decide) ?_
                  exact lp_75 2 (by unfold qrt; repeat' split <;> omega) _ _ _ hP hD hS (lv_sub hl [0, 1, 2, 3, 4, 5] rfl)
            · have c_53_ := c_53
              refine lv_iconst (pc := 56) (v := iv 1) hx hb dX5_sectorOf_56 rfl ?_
              refine lv_goto (pc := 57) (tgt := 75) hx hb dX5_sectorOf_57 (by decide) ?_
              exact lp_75 1 (by unfold qrt; repeat' split <;> omega) _ _ _ hP hD hS (lv_sub hl [0, 1, 2, 3, 4, 5] rfl)
        · have c_39_ := c_39
          refine lv_iconst (pc := 42) (v := iv 0) hx hb dX5_sectorOf_42 rfl ?_
          refine lv_goto (pc := 43) (tgt := 75) hx hb dX5_sectorOf_43 (by decide) ?_
          exact lp_75 0 (by unfold qrt; repeat' split <;> omega) _ _ _ hP hD hS (lv_sub hl [0, 1, 2, 3, 4, 5] rfl)
    · have c_22_ := c_22
      refine lv_iload (pc := 25) hx hb dX5_sectorOf_25 (lv_at hl 5 rfl) ?_
      refine r_if_ne (pc := 27) (a := B) hx hb dX5_sectorOf_27 (tgt := 32) (by decide) ⟨by omega, by omega⟩ (fun c_27 => ?_) (fun c_27 => ?_)
      · have c_27_ := c_27
        have hn0 : ¬ (A = 0 ∧ B = 0) := by omega
        have lp_75 : ∀ (qd : Int) (hq : qd = qrt A B), ∀ (H : Heap) (locs : List Loc) (ls : Array Slot), WP ε (wM ε m0 ad n G ++ R) H → WD ε (wM ε m0 ad n G ++ R) → WS ε s9.heap H locs → lv_has ls 10 [(0, .ref m0), (1, .int (iv i)), (2, .int (iv x)), (3, .int (iv y)), (4, .int (iv A)), (5, .int (iv B))] → W p9 l e9 rm_c_m_sectorOf s9 m9 a9 bl9 me9 c9 H locs 0 0 Q9 (F0 m9 75 ls [.int (iv qd)]) := by
          intro qd hq H locs ls hP hD hS hl
          refine lv_istore (lv' := [(6, .int (iv qd)), (0, .ref m0), (1, .int (iv i)), (2, .int (iv x)), (3, .int (iv y)), (4, .int (iv A)), (5, .int (iv B))]) (pc := 75) hx hb dX5_sectorOf_75 hl (by decide) rfl (fun ls hl => ?_)
          have hqb := qrt_bd A B
          rw [← hq] at hqb
          have lp_90 : ∀ (wd : Int) (hw : wd = ab A), ∀ (H : Heap) (locs : List Loc) (ls : Array Slot), WP ε (wM ε m0 ad n G ++ R) H → WD ε (wM ε m0 ad n G ++ R) → WS ε s9.heap H locs → lv_has ls 10 [(0, .ref m0), (1, .int (iv i)), (2, .int (iv x)), (3, .int (iv y)), (4, .int (iv A)), (5, .int (iv B)), (6, .int (iv qd))] → W p9 l e9 rm_c_m_sectorOf s9 m9 a9 bl9 me9 c9 H locs 0 0 Q9 (F0 m9 90 ls [.int (iv wd)]) := by
            intro wd hw H locs ls hP hD hS hl
            refine lv_istore (lv' := [(7, .int (iv wd)), (0, .ref m0), (1, .int (iv i)), (2, .int (iv x)), (3, .int (iv y)), (4, .int (iv A)), (5, .int (iv B)), (6, .int (iv qd))]) (pc := 90) hx hb dX5_sectorOf_90 hl (by decide) rfl (fun ls hl => ?_)
            have lp_105 : ∀ (hg : Int) (hh : hg = ab B), ∀ (H : Heap) (locs : List Loc) (ls : Array Slot), WP ε (wM ε m0 ad n G ++ R) H → WD ε (wM ε m0 ad n G ++ R) → WS ε s9.heap H locs → lv_has ls 10 [(0, .ref m0), (1, .int (iv i)), (2, .int (iv x)), (3, .int (iv y)), (4, .int (iv A)), (5, .int (iv B)), (6, .int (iv qd)), (7, .int (iv wd))] → W p9 l e9 rm_c_m_sectorOf s9 m9 a9 bl9 me9 c9 H locs 0 0 Q9 (F0 m9 105 ls [.int (iv hg)]) := by
              intro hg hh H locs ls hP hD hS hl
              refine lv_istore (lv' := [(8, .int (iv hg)), (0, .ref m0), (1, .int (iv i)), (2, .int (iv x)), (3, .int (iv y)), (4, .int (iv A)), (5, .int (iv B)), (6, .int (iv qd)), (7, .int (iv wd))]) (pc := 105) hx hb dX5_sectorOf_105 hl (by decide) rfl (fun ls hl => ?_)
              have hwb : 0 ≤ wd ∧ wd ≤ 31 := by rw [hw]; unfold ab; split <;> omega
              have hgb : 0 ≤ hg ∧ hg ≤ 31 := by rw [hh]; unfold ab; split <;> omega
              have hmp : moreP A B ↔ (qd % 2 = 0 → wd ≤ hg) ∧ (qd % 2 ≠ 0 → hg ≤ wd) := by unfold moreP; rw [← hq, ← hw, ← hh]
              have lp_141 : ∀ (mo : Bool) (hm : mo = true ↔ moreP A B), ∀ (H : Heap) (locs : List Loc) (ls : Array Slot), WP ε (wM ε m0 ad n G ++ R) H → WD ε (wM ε m0 ad n G ++ R) → WS ε s9.heap H locs → lv_has ls 10 [(0, .ref m0), (1, .int (iv i)), (2, .int (iv x)), (3, .int (iv y)), (4, .int (iv A)), (5, .int (iv B)), (6, .int (iv qd)), (7, .int (iv wd)), (8, .int (iv hg))] → W p9 l e9 rm_c_m_sectorOf s9 m9 a9 bl9 me9 c9 H locs 0 0 Q9 (F0 m9 141 ls [.int (iv (bz mo))]) := by
                intro mo hm H locs ls hP hD hS hl
                refine lv_istore (lv' := [(9, .int (iv (bz mo))), (0, .ref m0), (1, .int (iv i)), (2, .int (iv x)), (3, .int (iv y)), (4, .int (iv A)), (5, .int (iv B)), (6, .int (iv qd)), (7, .int (iv wd)), (8, .int (iv hg))]) (pc := 141) hx hb dX5_sectorOf_141 hl (by decide) rfl (fun ls hl => ?_)
                refine lv_iconst (pc := 143) (v := iv 2) hx hb dX5_sectorOf_143 rfl ?_
                refine lv_iload (pc := 144) hx hb dX5_sectorOf_144 (lv_at hl 7 rfl) ?_
                refine r_imul (pc := 146) (a := 2) (b := qd) hx hb dX5_sectorOf_146 ?_
                refine lv_iload (pc := 147) hx hb dX5_sectorOf_147 (lv_at hl 0 rfl) ?_
                refine r_if_b0 (pc := 149) (b := mo) hx hb dX5_sectorOf_149 (tgt := 156) (by decide)  (fun c_149 => ?_) (fun c_149 => ?_)
                · have c_149_ := c_149
                  refine lv_iconst (pc := 156) (v := iv 0) hx hb dX5_sectorOf_156 rfl ?_
                  refine r_iadd (pc := 157) (a := 2 * qd) (b := 0) hx hb dX5_sectorOf_157 ?_
                  have hres : (2 * qd) + 0 = sectP (x - G 4 i.toNat) (y - G 5 i.toNat) := by
                   rw [← hA, ← hB]
                   unfold sectP
                   rw [if_neg hn0, ← hq, ← tb_of hm, c_149]
                   rfl
                  refine c_iret (pc := 158) hC hQ hP hD hS (by decide) (by decide) dX5_sectorOf_158 ?_
                  exact ⟨congrArg (fun z => some (Value.int (iv z))) hres, rfl⟩
                · have c_149_ := c_149
                  refine lv_iconst (pc := 152) (v := iv 1) hx hb dX5_sectorOf_152 rfl ?_
                  refine lv_goto (pc := 153) (tgt := 157) hx hb dX5_sectorOf_153 (by decide) ?_
                  refine r_iadd (pc := 157) (a := 2 * qd) (b := 1) hx hb dX5_sectorOf_157 ?_
                  have hres : (2 * qd) + 1 = sectP (x - G 4 i.toNat) (y - G 5 i.toNat) := by
                   rw [← hA, ← hB]
                   unfold sectP
                   rw [if_neg hn0, ← hq, ← tb_of hm, c_149]
                   rfl
                  refine c_iret (pc := 158) hC hQ hP hD hS (by decide) (by decide) dX5_sectorOf_158 ?_
                  exact ⟨congrArg (fun z => some (Value.int (iv z))) hres, rfl⟩
              refine lv_iload (pc := 107) hx hb dX5_sectorOf_107 (lv_at hl 7 rfl) ?_
              refine lv_iconst (pc := 109) (v := iv 2) hx hb dX5_sectorOf_109 rfl ?_
              refine r_irem (pc := 110) (a := qd) (b := 2) hx hb dX5_sectorOf_110 ⟨⟨by omega, by omega⟩, by omega, by omega⟩ ?_
              have hm_110 := Int.emod_nonneg qd (show 2 ≠ 0 by omega)
              have hn_110 := Int.emod_lt_of_pos qd (show 0 < 2 by omega)
              refine r_if_ne (pc := 111) (a := qd % 2) hx hb dX5_sectorOf_111 (tgt := 129) (by decide) ⟨by omega, by omega⟩ (fun c_111 => ?_) (fun c_111 => ?_)
              · have c_111_ := c_111
                refine lv_iload (pc := 129) hx hb dX5_sectorOf_129 (lv_at hl 8 rfl) ?_
                refine lv_iload (pc := 131) hx hb dX5_sectorOf_131 (lv_at hl 0 rfl) ?_
                refine r_icmp_lt (pc := 133) (a := wd) (b := hg) hx hb dX5_sectorOf_133 (tgt := 140) (by decide) ⟨by omega, by omega⟩ ⟨by omega, by omega⟩ (fun c_133 => ?_) (fun c_133 => ?_)
                · have c_133_ := c_133
                  refine lv_iconst (pc := 140) (v := iv 0) hx hb dX5_sectorOf_140 rfl ?_
                  exact lp_141 false ⟨fun z => (by cases z), fun z => (by obtain ⟨z1, z2⟩ := hmp.mp z; omega)⟩ _ _ _ hP hD hS (lv_sub hl [1, 2, 3, 4, 5, 6, 7, 8, 0] rfl)
                · have c_133_ := c_133
                  refine lv_iconst (pc := 136) (v := iv 1) hx hb dX5_sectorOf_136 rfl ?_
                  refine lv_goto (pc := 137) (tgt := 141) hx hb dX5_sectorOf_137 (by decide) ?_
                  exact lp_141 true ⟨fun _ => hmp.mpr ⟨fun z => (by omega), fun z => (by omega)⟩, fun _ => rfl⟩ _ _ _ hP hD hS (lv_sub hl [1, 2, 3, 4, 5, 6, 7, 8, 0] rfl)
              · have c_111_ := c_111
                refine lv_iload (pc := 114) hx hb dX5_sectorOf_114 (lv_at hl 0 rfl) ?_
                refine lv_iload (pc := 116) hx hb dX5_sectorOf_116 (lv_at hl 8 rfl) ?_
                refine r_icmp_lt (pc := 118) (a := hg) (b := wd) hx hb dX5_sectorOf_118 (tgt := 125) (by decide) ⟨by omega, by omega⟩ ⟨by omega, by omega⟩ (fun c_118 => ?_) (fun c_118 => ?_)
                · have c_118_ := c_118
                  refine lv_iconst (pc := 125) (v := iv 0) hx hb dX5_sectorOf_125 rfl ?_
                  refine lv_goto (pc := 126) (tgt := 141) hx hb dX5_sectorOf_126 (by decide) ?_
                  exact lp_141 false ⟨fun z => (by cases z), fun z => (by obtain ⟨z1, z2⟩ := hmp.mp z; omega)⟩ _ _ _ hP hD hS (lv_sub hl [1, 2, 3, 4, 5, 6, 7, 8, 0] rfl)
                · have c_118_ := c_118
                  refine lv_iconst (pc := 121) (v := iv 1) hx hb dX5_sectorOf_121 rfl ?_
                  refine lv_goto (pc := 122) (tgt := 141) hx hb dX5_sectorOf_122 (by decide) ?_
                  exact lp_141 true ⟨fun _ => hmp.mpr ⟨fun z => (by omega), fun z => (by omega)⟩, fun _ => rfl⟩ _ _ _ hP hD hS (lv_sub hl [1, 2, 3, 4, 5, 6, 7, 8, 0] rfl)
            refine lv_iload (pc := 92) hx hb dX5_sectorOf_92 (lv_at hl 6 rfl) ?_
            refine r_if_ge (pc := 94) (a := B) hx hb dX5_sectorOf_94 (tgt := 103) (by decide) ⟨by omega, by omega⟩ (fun c_94 => ?_) (fun c_94 => ?_)
            · have c_94_ := c_94
              refine lv_iload (pc := 103) hx hb dX5_sectorOf_103 (lv_at hl 6 rfl) ?_
              exact lp_105 B (by unfold ab; split <;> omega) _ _ _ hP hD hS (lv_sub hl [1, 2, 3, 4, 5, 6, 7, 0] rfl)
            · have c_94_ := c_94
              refine lv_iload (pc := 97) hx hb dX5_sectorOf_97 (lv_at hl 6 rfl) ?_
              refine r_ineg (pc := 99) (a := B) hx hb dX5_sectorOf_99 ?_
              refine lv_goto (pc := 100) (tgt := 105) hx hb dX5_sectorOf_100 (by decide) ?_
              exact lp_105 (-B) (by unfold ab; split <;> omega) _ _ _ hP hD hS (lv_sub hl [1, 2, 3, 4, 5, 6, 7, 0] rfl)
          refine lv_iload (pc := 77) hx hb dX5_sectorOf_77 (lv_at hl 5 rfl) ?_
          refine r_if_ge (pc := 79) (a := A) hx hb dX5_sectorOf_79 (tgt := 88) (by decide) ⟨by omega, by omega⟩ (fun c_79 => ?_) (fun c_79 => ?_)
          · have c_79_ := c_79
            refine lv_iload (pc := 88) hx hb dX5_sectorOf_88 (lv_at hl 5 rfl) ?_
            exact lp_90 A (by unfold ab; split <;> omega) _ _ _ hP hD hS (lv_sub hl [1, 2, 3, 4, 5, 6, 0] rfl)
          · have c_79_ := c_79
            refine lv_iload (pc := 82) hx hb dX5_sectorOf_82 (lv_at hl 5 rfl) ?_
            refine r_ineg (pc := 84) (a := A) hx hb dX5_sectorOf_84 ?_
            refine lv_goto (pc := 85) (tgt := 90) hx hb dX5_sectorOf_85 (by decide) ?_
            exact lp_90 (-A) (by unfold ab; split <;> omega) _ _ _ hP hD hS (lv_sub hl [1, 2, 3, 4, 5, 6, 0] rfl)
        refine lv_iload (pc := 32) hx hb dX5_sectorOf_32 (lv_at hl 4 rfl) ?_
        refine r_if_le (pc := 34) (a := A) hx hb dX5_sectorOf_34 (tgt := 46) (by decide) ⟨by omega, by omega⟩ (fun c_34 => ?_) (fun c_34 => ?_)
        · have c_34_ := c_34
          refine lv_iload (pc := 46) hx hb dX5_sectorOf_46 (lv_at hl 4 rfl) ?_
          refine r_if_gt (pc := 48) (a := A) hx hb dX5_sectorOf_48 (tgt := 60) (by decide) ⟨by omega, by omega⟩ (fun c_48 => ?_) (fun c_48 => ?_)
          · have c_48_ := c_48
            refine lv_iload (pc := 60) hx hb dX5_sectorOf_60 (lv_at hl 4 rfl) ?_
            refine r_if_ge (pc := 62) (a := A) hx hb dX5_sectorOf_62 (tgt := 74) (by decide) ⟨by omega, by omega⟩ (fun c_62 => ?_) (fun c_62 => ?_)
            · have c_62_ := c_62
              refine lv_iconst (pc := 74) (v := iv 3) hx hb dX5_sectorOf_74 rfl ?_
              exact lp_75 3 (by unfold qrt; repeat' split <;> omega) _ _ _ hP hD hS (lv_sub hl [0, 1, 2, 3, 4, 5] rfl)
            · have c_62_ := c_62
              refine lv_iload (pc := 65) hx hb dX5_sectorOf_65 (lv_at hl 5 rfl) ?_
              refine r_if_gt (pc := 67) (a := B) hx hb dX5_sectorOf_67 (tgt := 74) (by decide) ⟨by omega, by omega⟩ (fun c_67 => ?_) (fun c_67 => ?_)
              · have c_67_ := c_67
                refine lv_iconst (pc := 74) (v := iv 3) hx hb dX5_sectorOf_74 rfl ?_
                exact lp_75 3 (by unfold qrt; repeat' split <;> omega) _ _ _ hP hD hS (lv_sub hl [0, 1, 2, 3, 4, 5] rfl)
              · have c_67_ := c_67
                refine lv_iconst (pc := 70) (v := iv 2) hx hb dX5_sectorOf_70 rfl ?_
                refine lv_goto (pc := 71) (tgt := 75) hx hb dX5_sectorOf_71 (by decide) ?_
                exact lp_75 2 (by unfold qrt; repeat' split <;> omega) _ _ _ hP hD hS (lv_sub hl [0, 1, 2, 3, 4, 5] rfl)
          · have c_48_ := c_48
            refine lv_iload (pc := 51) hx hb dX5_sectorOf_51 (lv_at hl 5 rfl) ?_
            refine r_if_le (pc := 53) (a := B) hx hb dX5_sectorOf_53 (tgt := 60) (by decide) ⟨by omega, by omega⟩ (fun c_53 => ?_) (fun c_53 => ?_)
            · have c_53_ := c_53
              refine lv_iload (pc := 60) hx hb dX5_sectorOf_60 (lv_at hl 4 rfl) ?_
              refine r_if_ge (pc := 62) (a := A) hx hb dX5_sectorOf_62 (tgt := 74) (by decide) ⟨by omega, by omega⟩ (fun c_62 => ?_) (fun c_62 => ?_)
              · have c_62_ := c_62
                refine lv_iconst (pc := 74) (v := iv 3) hx hb dX5_sectorOf_74 rfl ?_
                exact lp_75 3 (by unfold qrt; repeat' split <;> omega) _ _ _ hP hD hS (lv_sub hl [0, 1, 2, 3, 4, 5] rfl)
              · have c_62_ := c_62
                refine lv_iload (pc := 65) hx hb dX5_sectorOf_65 (lv_at hl 5 rfl) ?_
                refine r_if_gt (pc := 67) (a := B) hx hb dX5_sectorOf_67 (tgt := 74) (by decide) ⟨by omega, by omega⟩ (fun c_67 => ?_) (fun c_67 => ?_)
                · have c_67_ := c_67
                  refine lv_iconst (pc := 74) (v := iv 3) hx hb dX5_sectorOf_74 rfl ?_
                  exact lp_75 3 (by unfold qrt; repeat' split <;> omega) _ _ _ hP hD hS (lv_sub hl [0, 1, 2, 3, 4, 5] rfl)
                · have c_67_ := c_67
                  refine lv_iconst (pc := 70) (v := iv 2) hx hb dX5_sectorOf_70 rfl ?_
                  refine lv_goto (pc := 71) (tgt := 75) hx hb dX5_sectorOf_71 (by decide) ?_
                  exact lp_75 2 (by unfold qrt; repeat' split <;> omega) _ _ _ hP hD hS (lv_sub hl [0, 1, 2, 3, 4, 5] rfl)
            · have c_53_ := c_53
              refine lv_iconst (pc := 56) (v := iv 1) hx hb dX5_sectorOf_56 rfl ?_
              refine lv_goto (pc := 57) (tgt := 75) hx hb dX5_sectorOf_57 (by decide) ?_
              exact lp_75 1 (by unfold qrt; repeat' split <;> omega) _ _ _ hP hD hS (lv_sub hl [0, 1, 2, 3, 4, 5] rfl)
        · have c_34_ := c_34
          refine lv_iload (pc := 37) hx hb dX5_sectorOf_37 (lv_at hl 5 rfl) ?_
          refine r_if_lt (pc := 39) (a := B) hx hb dX5_sectorOf_39 (tgt := 46) (by decide) ⟨by omega, by omega⟩ (fun c_39 => ?_) (fun c_39 => ?_)
          · have c_39_ := c_39
            refine lv_iload (pc := 46) hx hb dX5_sectorOf_46 (lv_at hl 4 rfl) ?_
            refine r_if_gt (pc := 48) (a := A) hx hb dX5_sectorOf_48 (tgt := 60) (by decide) ⟨by omega, by omega⟩ (fun c_48 => ?_) (fun c_48 => ?_)
            · have c_48_ := c_48
              refine lv_iload (pc := 60) hx hb dX5_sectorOf_60 (lv_at hl 4 rfl) ?_
              refine r_if_ge (pc := 62) (a := A) hx hb dX5_sectorOf_62 (tgt := 74) (by decide) ⟨by omega, by omega⟩ (fun c_62 => ?_) (fun c_62 => ?_)
              · have c_62_ := c_62
                refine lv_iconst (pc := 74) (v := iv 3) hx hb dX5_sectorOf_74 rfl ?_
                exact lp_75 3 (by unfold qrt; repeat' split <;> omega) _ _ _ hP hD hS (lv_sub hl [0, 1, 2, 3, 4, 5] rfl)
              · have c_62_ := c_62
                refine lv_iload (pc := 65) hx hb dX5_sectorOf_65 (lv_at hl 5 rfl) ?_
                refine r_if_gt (pc := 67) (a := B) hx hb dX5_sectorOf_67 (tgt := 74) (by decide) ⟨by omega, by omega⟩ (fun c_67 => ?_) (fun c_67 => ?_)
                · have c_67_ := c_67
                  refine lv_iconst (pc := 74) (v := iv 3) hx hb dX5_sectorOf_74 rfl ?_
                  exact lp_75 3 (by unfold qrt; repeat' split <;> omega) _ _ _ hP hD hS (lv_sub hl [0, 1, 2, 3, 4, 5] rfl)
                · have c_67_ := c_67
                  refine lv_iconst (pc := 70) (v := iv 2) hx hb dX5_sectorOf_70 rfl ?_
                  refine lv_goto (pc := 71) (tgt := 75) hx hb dX5_sectorOf_71 (by decide) ?_
                  exact lp_75 2 (by unfold qrt; repeat' split <;> omega) _ _ _ hP hD hS (lv_sub hl [0, 1, 2, 3, 4, 5] rfl)
            · have c_48_ := c_48
              refine lv_iload (pc := 51) hx hb dX5_sectorOf_51 (lv_at hl 5 rfl) ?_
              refine r_if_le (pc := 53) (a := B) hx hb dX5_sectorOf_53 (tgt := 60) (by decide) ⟨by omega, by omega⟩ (fun c_53 => ?_) (fun c_53 => ?_)
              · have c_53_ := c_53
                refine lv_iload (pc := 60) hx hb dX5_sectorOf_60 (lv_at hl 4 rfl) ?_
                refine r_if_ge (pc := 62) (a := A) hx hb dX5_sectorOf_62 (tgt := 74) (by decide) ⟨by omega, by omega⟩ (fun c_62 => ?_) (fun c_62 => ?_)
                · have c_62_ := c_62
                  refine lv_iconst (pc := 74) (v := iv 3) hx hb dX5_sectorOf_74 rfl ?_
                  exact lp_75 3 (by unfold qrt; repeat' split <;> omega) _ _ _ hP hD hS (lv_sub hl [0, 1, 2, 3, 4, 5] rfl)
                · have c_62_ := c_62
                  refine lv_iload (pc := 65) hx hb dX5_sectorOf_65 (lv_at hl 5 rfl) ?_
                  refine r_if_gt (pc := 67) (a := B) hx hb dX5_sectorOf_67 (tgt := 74) (by decide) ⟨by omega, by omega⟩ (fun c_67 => ?_) (fun c_67 => ?_)
                  · have c_67_ := c_67
                    refine lv_iconst (pc := 74) (v := iv 3) hx hb dX5_sectorOf_74 rfl ?_
                    exact lp_75 3 (by unfold qrt; repeat' split <;> omega) _ _ _ hP hD hS (lv_sub hl [0, 1, 2, 3, 4, 5] rfl)
                  · have c_67_ := c_67
                    refine lv_iconst (pc := 70) (v := iv 2) hx hb dX5_sectorOf_70 rfl ?_
                    refine lv_goto (pc := 71) (tgt := 75) hx hb dX5_sectorOf_71 (by decide) ?_
                    exact lp_75 2 (by unfold qrt; repeat' split <;> omega) _ _ _ hP hD hS (lv_sub hl [0, 1, 2, 3, 4, 5] rfl)
              · have c_53_ := c_53
                refine lv_iconst (pc := 56) (v := iv 1) hx hb dX5_sectorOf_56 rfl ?_
                refine lv_goto (pc := 57) (tgt := 75) hx hb dX5_sectorOf_57 (by decide) ?_
                exact lp_75 1 (by unfold qrt; repeat' split <;> omega) _ _ _ hP hD hS (lv_sub hl [0, 1, 2, 3, 4, 5] rfl)
          · have c_39_ := c_39
            refine lv_iconst (pc := 42) (v := iv 0) hx hb dX5_sectorOf_42 rfl ?_
            refine lv_goto (pc := 43) (tgt := 75) hx hb dX5_sectorOf_43 (by decide) ?_
            exact lp_75 0 (by unfold qrt; repeat' split <;> omega) _ _ _ hP hD hS (lv_sub hl [0, 1, 2, 3, 4, 5] rfl)
      · have c_27_ := c_27
        have hres : (-1 : Int) = sectP (x - G 4 i.toNat) (y - G 5 i.toNat) := by
         rw [← hA, ← hB]
         unfold sectP
         rw [if_pos ⟨by omega, by omega⟩]
        refine lv_iconst (pc := 30) (v := iv (-1)) hx hb dX5_sectorOf_30 rfl ?_
        refine c_iret (pc := 31) hC hQ hP hD hS (by decide) (by decide) dX5_sectorOf_31 ?_
        exact ⟨congrArg (fun z => some (Value.int (iv z))) hres, rfl⟩
  exact lp_20 (x - (G 4 i.toNat)) (y - (G 5 i.toNat)) rfl rfl _ _ _ hP hD hS (lv_sub hl [2, 3, 4, 5, 1, 0] rfl)

abbrev rm_c_m_sees : Room := { frames := 1, cells := 0, slots := 0, locals := 40 }
set_option maxRecDepth 100000 in
set_option maxHeartbeats 4000000 in
theorem c_m_sees (l : Launch) (ε : EV) (m0 : Nat) (ad : Nat → Nat) (n : Nat → Int) (G : Nat → Nat → Int) (R : va_W) (i x y : Int) (hi : 0 ≤ i ∧ i < 12) (hv : LV n G i) (hxy : (0 ≤ x ∧ x ≤ 31) ∧ 0 ≤ y ∧ y ≤ 31) : CT l yX5_sees cX5_sees 8 (some .boolean) rm_c_m_sees ε [.ref m0, .int (iv i), .int (iv x), .int (iv y)] (wM ε m0 ad n G ++ R) (fun v w => v = some (.int (iv (bz (tb (SEES G i x y))))) ∧ w = wM ε m0 ad n G ++ R) NX := by
  refine CT.intro (by decide +kernel) (Nat.le_of_ble_eq_true rfl) ?_
  intro p9 e9 s9 m9 a9 bl9 me9 c9 ls Q9 hC hE hP hD hl hQ
  have hx := hC.1
  have hb := hC.2.1
  have hK := hE.K
  have hS : WS ε s9.heap s9.heap [] := va_S.rf
  have hl : lv_has ls 8 [(0, .ref m0), (1, .int (iv i)), (2, .int (iv x)), (3, .int (iv y))] := hl
  obtain ⟨H, hH⟩ : ∃ H, H = s9.heap := ⟨_, rfl⟩
  obtain ⟨locs, hlo⟩ : ∃ z : List Loc, z = [] := ⟨_, rfl⟩
  rw [← hH] at hP ⊢
  have hS : WS ε s9.heap H locs := by rw [hH, hlo]; exact hS
  rw [← hlo]
  clear hH hlo
  have hv0 := hv
  obtain ⟨⟨h41, h42⟩, ⟨h51, h52⟩, ⟨h61, h62⟩, ⟨h71, h72⟩, ⟨h81, h82⟩, ⟨h91, h92⟩, h10⟩ := hv
  refine lv_iload_n (pc := 0) hx hb dX5_sees_0 rfl (lv_at hl 2 rfl) ?_
  refine lv_aload_n (pc := 1) hx hb dX5_sees_1 rfl (lv_at hl 0 rfl) ?_
  refine r_get (pc := 2) hC hK hP wM_o (hc := rfl) (fun w h => wt_1 w h) 7 (by decide) m_1_21 (fun _ h => h) (v := .ref (ad 4)) rfl dX5_sees_2 ?_
  refine lv_iload_n (pc := 5) hx hb dX5_sees_5 rfl (lv_at hl 1 rfl) ?_
  refine r_iald (pc := 6) (z := i) hC hK hP wM_4 ⟨by omega, by omega, by decide⟩ dX5_sees_6 ?_
  refine r_isub (pc := 7) (a := x) (b := G 4 i.toNat) hx hb dX5_sees_7 ?_
  refine lv_istore (lv' := [(4, .int (iv (x - (G 4 i.toNat)))), (0, .ref m0), (1, .int (iv i)), (2, .int (iv x)), (3, .int (iv y))]) (pc := 8) hx hb dX5_sees_8 hl (by decide) rfl (fun ls hl => ?_)
  refine lv_iload_n (pc := 10) hx hb dX5_sees_10 rfl (lv_at hl 4 rfl) ?_
  refine lv_aload_n (pc := 11) hx hb dX5_sees_11 rfl (lv_at hl 1 rfl) ?_
  refine r_get (pc := 12) hC hK hP wM_o (hc := rfl) (fun w h => wt_1 w h) 8 (by decide) m_1_22 (fun _ h => h) (v := .ref (ad 5)) rfl dX5_sees_12 ?_
  refine lv_iload_n (pc := 15) hx hb dX5_sees_15 rfl (lv_at hl 2 rfl) ?_
  refine r_iald (pc := 16) (z := i) hC hK hP wM_5 ⟨by omega, by omega, by decide⟩ dX5_sees_16 ?_
  refine r_isub (pc := 17) (a := y) (b := G 5 i.toNat) hx hb dX5_sees_17 ?_
  refine lv_istore (lv' := [(5, .int (iv (y - (G 5 i.toNat)))), (4, .int (iv (x - (G 4 i.toNat)))), (0, .ref m0), (1, .int (iv i)), (2, .int (iv x)), (3, .int (iv y))]) (pc := 18) hx hb dX5_sees_18 hl (by decide) rfl (fun ls hl => ?_)
  refine lv_aload_n (pc := 20) hx hb dX5_sees_20 rfl (lv_at hl 2 rfl) ?_
  refine lv_iload_n (pc := 21) hx hb dX5_sees_21 rfl (lv_at hl 3 rfl) ?_
  refine lv_iload_n (pc := 22) hx hb dX5_sees_22 rfl (lv_at hl 4 rfl) ?_
  refine lv_iload_n (pc := 23) hx hb dX5_sees_23 rfl (lv_at hl 5 rfl) ?_
  refine c_callV (pc := 24) (y := yX5_sectorOf) (As := [.int (iv i), .int (iv x), .int (iv y)]) (rest := []) hC hE hP hD hS hl.1 (c_m_sectorOf l ε m0 ad n G R (i) (x) (y) hi hv0 hxy) m_16_23 m_16_24 m_17_0 m_0_5 m_17_1 wM_o rfl hd_yX5_sectorOf rfl ⟨⟨by decide, by decide⟩, by decide, by decide⟩ (Nat.le_of_ble_eq_true rfl) rfl dX5_sees_24 kxN (fun v ws1 H locs hq hP hD hS => ?_)
  rw [hq.2] at hP hD
  rw [hq.1]
  dsimp only [Option.toList, List.cons_append, List.nil_append]
  refine lv_istore (lv' := [(6, .int (iv (sectP (x - G 4 i.toNat) (y - G 5 i.toNat)))), (5, .int (iv (y - (G 5 i.toNat)))), (4, .int (iv (x - (G 4 i.toNat)))), (0, .ref m0), (1, .int (iv i)), (2, .int (iv x)), (3, .int (iv y))]) (pc := 27) hx hb dX5_sees_27 hl (by decide) rfl (fun ls hl => ?_)
  have lp_29 : ∀ (A : Int) (B : Int) (sc : Int) (hA : A = x - G 4 i.toNat) (hB : B = y - G 5 i.toNat) (hsc : sc = sectP (x - G 4 i.toNat) (y - G 5 i.toNat)), ∀ (H : Heap) (locs : List Loc) (ls : Array Slot), WP ε (wM ε m0 ad n G ++ R) H → WD ε (wM ε m0 ad n G ++ R) → WS ε s9.heap H locs → lv_has ls 8 [(0, .ref m0), (1, .int (iv i)), (2, .int (iv x)), (3, .int (iv y)), (4, .int (iv A)), (5, .int (iv B)), (6, .int (iv sc))] → W p9 l e9 rm_c_m_sees s9 m9 a9 bl9 me9 c9 H locs 0 0 Q9 (F0 m9 29 ls []) := by
    intro A B sc hA hB hsc H locs ls hP hD hS hl
    have hsb := sectP_bd (x - G 4 i.toNat) (y - G 5 i.toNat)
    have lp_76 : ∀ (nr : Bool) (hnr : nr = true ↔ (-(G 8 i.toNat) ≤ A ∧ A ≤ G 8 i.toNat) ∧ (-(G 8 i.toNat) ≤ B ∧ B ≤ G 8 i.toNat)), ∀ (H : Heap) (locs : List Loc) (ls : Array Slot), WP ε (wM ε m0 ad n G ++ R) H → WD ε (wM ε m0 ad n G ++ R) → WS ε s9.heap H locs → lv_has ls 8 [(0, .ref m0), (1, .int (iv i)), (2, .int (iv x)), (3, .int (iv y)), (4, .int (iv A)), (5, .int (iv B)), (6, .int (iv sc))] → W p9 l e9 rm_c_m_sees s9 m9 a9 bl9 me9 c9 H locs 0 0 Q9 (F0 m9 76 ls [.int (iv (bz nr))]) := by
      intro nr hnr H locs ls hP hD hS hl
      refine lv_istore (lv' := [(7, .int (iv (bz nr))), (0, .ref m0), (1, .int (iv i)), (2, .int (iv x)), (3, .int (iv y)), (4, .int (iv A)), (5, .int (iv B)), (6, .int (iv sc))]) (pc := 76) hx hb dX5_sees_76 hl (by decide) rfl (fun ls hl => ?_)
      have hSE : SEES G i x y ↔ ((-(G 8 i.toNat) ≤ A ∧ A ≤ G 8 i.toNat) ∧ -(G 8 i.toNat) ≤ B ∧ B ≤ G 8 i.toNat) ∧ (sc < 0 ∨ (G 9 i.toNat) / 2 ^ sc.toNat % 2 = 1) := by unfold SEES; rw [← hsc, ← hA, ← hB]
      refine lv_iload (pc := 78) hx hb dX5_sees_78 (lv_at hl 0 rfl) ?_
      refine r_if_b0 (pc := 80) (b := nr) hx hb dX5_sees_80 (tgt := 107) (by decide)  (fun c_80 => ?_) (fun c_80 => ?_)
      · have c_80_ := c_80
        have hnr0 : nr = false → ¬ ((-(G 8 i.toNat) ≤ A ∧ A ≤ G 8 i.toNat) ∧ -(G 8 i.toNat) ≤ B ∧ B ≤ G 8 i.toNat) := fun z1 z2 => by rw [hnr.mpr z2] at z1; cases z1
        have hnr2 := hnr0 c_80
        refine lv_iconst (pc := 107) (v := iv 0) hx hb dX5_sees_107 rfl ?_
        refine c_zret (pc := 108) hC hQ hP hD hS (by decide) (by decide) dX5_sees_108 nz_0 ?_
        exact ⟨congrArg (fun z => some (Value.int z)) (bz_0 (tb_f (fun z => by have z9 := hSE.mp z; omega))), rfl⟩
      · have c_80_ := c_80
        have hnr1 := hnr.mp c_80
        refine lv_iload (pc := 83) hx hb dX5_sees_83 (lv_at hl 7 rfl) ?_
        refine r_if_lt (pc := 85) (a := sc) hx hb dX5_sees_85 (tgt := 103) (by decide) ⟨by omega, by omega⟩ (fun c_85 => ?_) (fun c_85 => ?_)
        · have c_85_ := c_85
          refine lv_iconst (pc := 103) (v := iv 1) hx hb dX5_sees_103 rfl ?_
          refine lv_goto (pc := 104) (tgt := 108) hx hb dX5_sees_104 (by decide) ?_
          refine c_zret (pc := 108) hC hQ hP hD hS (by decide) (by decide) dX5_sees_108 nz_1 ?_
          exact ⟨congrArg (fun z => some (Value.int z)) (bz_1 (tb_t (hSE.mpr (by omega)))), rfl⟩
        · have c_85_ := c_85
          refine lv_aload_n (pc := 88) hx hb dX5_sees_88 rfl (lv_at hl 1 rfl) ?_
          refine r_get (pc := 89) hC hK hP wM_o (hc := rfl) (fun w h => wt_1 w h) 12 (by decide) m_2_1 (fun _ h => h) (v := .ref (ad 9)) rfl dX5_sees_89 ?_
          refine lv_iload_n (pc := 92) hx hb dX5_sees_92 rfl (lv_at hl 2 rfl) ?_
          refine r_iald (pc := 93) (z := i) hC hK hP wM_9 ⟨by omega, by omega, by decide⟩ dX5_sees_93 ?_
          refine lv_iload (pc := 94) hx hb dX5_sees_94 (lv_at hl 7 rfl) ?_
          refine lv_ishr (pc := 96) (x := iv (G 9 i.toNat)) (y := iv sc) hx hb dX5_sees_96 ?_
          rw [iv_sshr ⟨by omega, by omega⟩ ⟨by omega, by omega⟩]
          refine lv_iconst (pc := 97) (v := iv 1) hx hb dX5_sees_97 rfl ?_
          have hdv : 0 ≤ G 9 i.toNat / 2 ^ sc.toNat ∧ G 9 i.toNat / 2 ^ sc.toNat < 2147483648 := ⟨Int.ediv_nonneg (by omega) (Int.pow_nonneg (by omega)), Int.lt_of_le_of_lt (Int.ediv_le_self _ (by omega)) (by omega)⟩
          refine lv_iand (pc := 98) (x := iv ((G 9 i.toNat) / 2 ^ sc.toNat)) (y := iv 1) hx hb dX5_sees_98 ?_
          rw [iv_and1 ⟨by omega, by omega⟩]
          have hm_98 := Int.emod_nonneg ((G 9 i.toNat) / 2 ^ sc.toNat) (show (2 : Int) ≠ 0 by omega)
          have hn_98 := Int.emod_lt_of_pos ((G 9 i.toNat) / 2 ^ sc.toNat) (show (0 : Int) < 2 by omega)
          refine lv_iconst (pc := 99) (v := iv 1) hx hb dX5_sees_99 rfl ?_
          refine r_icmp_ne (pc := 100) (a := ((G 9 i.toNat) / 2 ^ sc.toNat) % 2) (b := 1) hx hb dX5_sees_100 (tgt := 107) (by decide) ⟨by omega, by omega⟩ ⟨by omega, by omega⟩ (fun c_100 => ?_) (fun c_100 => ?_)
          · have c_100_ := c_100
            have hnr0 : nr = false → ¬ ((-(G 8 i.toNat) ≤ A ∧ A ≤ G 8 i.toNat) ∧ -(G 8 i.toNat) ≤ B ∧ B ≤ G 8 i.toNat) := fun z1 z2 => by rw [hnr.mpr z2] at z1; cases z1
            refine lv_iconst (pc := 107) (v := iv 0) hx hb dX5_sees_107 rfl ?_
            refine c_zret (pc := 108) hC hQ hP hD hS (by decide) (by decide) dX5_sees_108 nz_0 ?_
            exact ⟨congrArg (fun z => some (Value.int z)) (bz_0 (tb_f (fun z => by have z9 := hSE.mp z; omega))), rfl⟩
          · have c_100_ := c_100
            refine lv_iconst (pc := 103) (v := iv 1) hx hb dX5_sees_103 rfl ?_
            refine lv_goto (pc := 104) (tgt := 108) hx hb dX5_sees_104 (by decide) ?_
            refine c_zret (pc := 108) hC hQ hP hD hS (by decide) (by decide) dX5_sees_108 nz_1 ?_
            exact ⟨congrArg (fun z => some (Value.int z)) (bz_1 (tb_t (hSE.mpr (by omega)))), rfl⟩
    refine lv_iload (pc := 29) hx hb dX5_sees_29 (lv_at hl 4 rfl) ?_
    refine lv_aload_n (pc := 31) hx hb dX5_sees_31 rfl (lv_at hl 0 rfl) ?_
    refine r_get (pc := 32) hC hK hP wM_o (hc := rfl) (fun w h => wt_1 w h) 11 (by decide) m_2_0 (fun _ h => h) (v := .ref (ad 8)) rfl dX5_sees_32 ?_
    refine lv_iload_n (pc := 35) hx hb dX5_sees_35 rfl (lv_at hl 1 rfl) ?_
    refine r_iald (pc := 36) (z := i) hC hK hP wM_8 ⟨by omega, by omega, by decide⟩ dX5_sees_36 ?_
    refine r_ineg (pc := 37) (a := G 8 i.toNat) hx hb dX5_sees_37 ?_
    refine lv_aload_n (pc := 38) hx hb dX5_sees_38 rfl (lv_at hl 0 rfl) ?_
    refine r_get (pc := 39) hC hK hP wM_o (hc := rfl) (fun w h => wt_1 w h) 11 (by decide) m_2_0 (fun _ h => h) (v := .ref (ad 8)) rfl dX5_sees_39 ?_
    refine lv_iload_n (pc := 42) hx hb dX5_sees_42 rfl (lv_at hl 1 rfl) ?_
    refine r_iald (pc := 43) (z := i) hC hK hP wM_8 ⟨by omega, by omega, by decide⟩ dX5_sees_43 ?_
    refine c_callS (pc := 44) (y := yX5_isIn) (As := [.int (iv A), .int (iv (-(G 8 i.toNat))), .int (iv (G 8 i.toNat))]) (rest := []) hC hE hP hD hS hl.1 (c_m_isIn l ε (wM ε m0 ad n G ++ R) (A) (-(G 8 i.toNat)) (G 8 i.toNat) ⟨by omega, by omega⟩ ⟨by omega, by omega⟩ ⟨by omega, by omega⟩) m_3_5 m_3_6 m_0_5 m_3_7 hd_yX5_isIn rfl ⟨⟨by decide, by decide⟩, by decide, by decide⟩ (Nat.le_of_ble_eq_true rfl) rfl dX5_sees_44 kxN (fun v ws1 H locs hq hP hD hS => ?_)
    rw [hq.2] at hP hD
    rw [hq.1]
    dsimp only [Option.toList, List.cons_append, List.nil_append]
    refine r_if_b0 (pc := 47) (b := decide (-(G 8 i.toNat) ≤ A ∧ A ≤ G 8 i.toNat)) hx hb dX5_sees_47 (tgt := 75) (by decide)  (fun c_47 => ?_) (fun c_47 => ?_)
    · replace c_47 := of_decide_eq_false c_47
      refine lv_iconst (pc := 75) (v := iv 0) hx hb dX5_sees_75 rfl ?_
      exact lp_76 false ⟨fun z => (by cases z), fun z => (by omega)⟩ _ _ _ hP hD hS (lv_sub hl [0, 1, 2, 3, 4, 5, 6] rfl)
    · replace c_47 := of_decide_eq_true c_47
      refine lv_iload (pc := 50) hx hb dX5_sees_50 (lv_at hl 5 rfl) ?_
      refine lv_aload_n (pc := 52) hx hb dX5_sees_52 rfl (lv_at hl 0 rfl) ?_
      refine r_get (pc := 53) hC hK hP wM_o (hc := rfl) (fun w h => wt_1 w h) 11 (by decide) m_2_0 (fun _ h => h) (v := .ref (ad 8)) rfl dX5_sees_53 ?_
      refine lv_iload_n (pc := 56) hx hb dX5_sees_56 rfl (lv_at hl 1 rfl) ?_
      refine r_iald (pc := 57) (z := i) hC hK hP wM_8 ⟨by omega, by omega, by decide⟩ dX5_sees_57 ?_
      refine r_ineg (pc := 58) (a := G 8 i.toNat) hx hb dX5_sees_58 ?_
      refine lv_aload_n (pc := 59) hx hb dX5_sees_59 rfl (lv_at hl 0 rfl) ?_
      refine r_get (pc := 60) hC hK hP wM_o (hc := rfl) (fun w h => wt_1 w h) 11 (by decide) m_2_0 (fun _ h => h) (v := .ref (ad 8)) rfl dX5_sees_60 ?_
      refine lv_iload_n (pc := 63) hx hb dX5_sees_63 rfl (lv_at hl 1 rfl) ?_
      refine r_iald (pc := 64) (z := i) hC hK hP wM_8 ⟨by omega, by omega, by decide⟩ dX5_sees_64 ?_
      refine c_callS (pc := 65) (y := yX5_isIn) (As := [.int (iv B), .int (iv (-(G 8 i.toNat))), .int (iv (G 8 i.toNat))]) (rest := []) hC hE hP hD hS hl.1 (c_m_isIn l ε (wM ε m0 ad n G ++ R) (B) (-(G 8 i.toNat)) (G 8 i.toNat) ⟨by omega, by omega⟩ ⟨by omega, by omega⟩ ⟨by omega, by omega⟩) m_3_5 m_3_6 m_0_5 m_3_7 hd_yX5_isIn rfl ⟨⟨by decide, by decide⟩, by decide, by decide⟩ (Nat.le_of_ble_eq_true rfl) rfl dX5_sees_65 kxN (fun v ws1 H locs hq hP hD hS => ?_)
      rw [hq.2] at hP hD
      rw [hq.1]
      dsimp only [Option.toList, List.cons_append, List.nil_append]
      refine r_if_b0 (pc := 68) (b := decide (-(G 8 i.toNat) ≤ B ∧ B ≤ G 8 i.toNat)) hx hb dX5_sees_68 (tgt := 75) (by decide)  (fun c_68 => ?_) (fun c_68 => ?_)
      · replace c_68 := of_decide_eq_false c_68
        refine lv_iconst (pc := 75) (v := iv 0) hx hb dX5_sees_75 rfl ?_
        exact lp_76 false ⟨fun z => (by cases z), fun z => (by omega)⟩ _ _ _ hP hD hS (lv_sub hl [0, 1, 2, 3, 4, 5, 6] rfl)
      · replace c_68 := of_decide_eq_true c_68
        refine lv_iconst (pc := 71) (v := iv 1) hx hb dX5_sees_71 rfl ?_
        refine lv_goto (pc := 72) (tgt := 76) hx hb dX5_sees_72 (by decide) ?_
        exact lp_76 true ⟨fun _ => (by omega), fun _ => rfl⟩ _ _ _ hP hD hS (lv_sub hl [0, 1, 2, 3, 4, 5, 6] rfl)
  exact lp_29 (x - (G 4 i.toNat)) (y - (G 5 i.toNat)) (sectP (x - G 4 i.toNat) (y - G 5 i.toNat)) rfl rfl rfl _ _ _ hP hD hS (lv_sub hl [3, 4, 5, 6, 2, 1, 0] rfl)
