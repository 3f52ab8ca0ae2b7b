/-! segments of the law's own methods; refuses -/
/-- from the place pc, with the locals lv, a world of P, and C cells, S slots made, the law's method y comes to its end -/
def SEG (l : Launch) (ε : EV) (y : MethodName) (cc : ByteArray) (mL : Nat) (rm : Room) (post : Option Value → va_W → Prop) (pc C S : Nat) (lv : List (Nat × Value)) (P : va_W → Prop) : Prop :=
  ∀ (p : Program) (e : Env) (s : State) (m : MethodId) (args : Array Value) (below : List Frame) (meth : Method) (c : Code) (Q : State → Prop), CTX p s m args meth c cc mL (some .boolean) y.cls y.name [] → ENV ε s s.heap → Q = vx_MQ below (QR ε post) (XR ε NX) args s rm.cells rm.slots (AA ε) →
    ∀ (H : Heap) (locs : List Loc) (ls : Array Slot) (w : va_W), P w → WP ε w H → WD ε w → WS ε s.heap H locs → lv_has ls mL lv → W p l e rm s m args below meth c H locs C S Q (F0 m pc ls [])
theorem SEG.ct {l : Launch} {ε : EV} {y : MethodName} {cc : ByteArray} {mL : Nat} {rm : Room} {post : Option Value → va_W → Prop} {as : List Value} {ws : va_W} {P : va_W → Prop} (hpl : plainName y.cls = true) (hlen : (lg_sl as).length ≤ mL) (hP : P ws) (h : SEG l ε y cc mL rm post 0 0 0 (lv_args 0 as) P) : CT l y cc mL (some .boolean) rm ε as ws post NX := by
  refine CT.intro hpl hlen ?_
  intro p e s m args below meth c ls Q hC hE hW hD hl hQ
  exact h p e s m args below meth c Q hC hE hQ _ _ _ ws hP hW hD va_S.rf hl

theorem lamp_patt {n : Nat → Int} {G : Nat → Nat → Int} (h : INV n G) : n 2 ≤ 0 ∨ 0 < n 1 := by
  by_cases e : 0 < n 2
  · have h1 := (h.2.2.1.2 0 (by decide) e).2.2.1
    exact Or.inr (by omega)
  · exact Or.inl (by omega)
section RSM
variable {p : Program} {l : Launch} {e : Env} {R : Room} {s : State} {m : MethodId} {args : Array Value} {below : List Frame} {meth : Method} {c : Code} {H : Heap} {locs : List Loc} {cells slots : Nat} {Q : State → Prop}
variable {cc : ByteArray} {pc : Nat} {ls : Array Slot} {rest : List Value}
theorem r_same_ne (hx : p.tables.exec = Jvm.exec) (hb : c.code = cc) {a : Int} {off : Int} {tgt : Nat} (hd : decode cc pc = .ok (.if_icmp .ne off, 3)) (ht : (pc : Int) + off = (tgt : Int)) (kf : W p l e R s m args below meth c H locs cells slots Q (F0 m (pc + 3) ls rest)) : W p l e R s m args below meth c H locs cells slots Q (F0 m pc ls (.int (iv a) :: .int (iv a) :: rest)) :=
  lv_icmp_ne hx hb hd ht (fun q => absurd rfl q) (fun _ => kf)
end RSM
abbrev rm_A_refuses : Room := { frames := 11, cells := 844, slots := 86632, locals := 552 }
set_option maxRecDepth 100000 in
set_option maxHeartbeats 8000000 in
theorem sr_0 (l : Launch) (ε : EV) (hst : l.stackTraces = false) {x : Nat} {n : Nat → Int} {G : Nat → Nat → Int} {w : va_W} (hHw : HS ε x n G w) (pa la ca : Int) (hpa : pa = n 1) (hla : la = n 2) (hca : ca = n 4) (h3 : n 3 < 512) (hnx : SEG l ε yL_refuses cL_refuses 16 rm_A_refuses (fun v z => v = some (.int (iv 1)) ∧ z = w) 19 0 0 [(0, .ref x), (1, .int (iv pa)), (2, .int (iv la)), (3, .int (iv ca)), (4, .int (iv (n 3))), (5, .int (iv (clcB G (n 2).toNat))), (6, .int (iv 2147483647)), (7, .int (iv 0))] (fun z => z = w)) : SEG l ε yL_refuses cL_refuses 16 rm_A_refuses (fun v z => v = some (.int (iv 1)) ∧ z = w) 0 0 0 [(0, .ref x), (1, .int (iv pa)), (2, .int (iv la)), (3, .int (iv ca))] (fun z => z = w) := by
  intro p9 e9 s9 m9 a9 bl9 me9 c9 Q9 hC hE hQ H locs ls w9 hH hP hD hS hl
  have hx := hC.1
  have hb := hC.2.1
  have hK := hE.K
  subst hH
  have hH := hHw
  obtain ⟨fo, hob⟩ := hH.ob
  have hI := hH.inv
  have hN := hI.NB
  have hlp := lamp_patt hI
  refine lv_aload_n (pc := 0) hx hb dL_refuses_0 rfl (lv_at hl 0 rfl) ?_
  refine c_callV (pc := 1) (y := yX4_notices) (As := []) (rest := []) hC hE hP hD hS hl.1 (K_notices l ε hst hH) m_1_24 m_2_0 m_2_1 m_0_2 m_2_2 hob rfl hd_yX4_notices rfl ⟨⟨by decide, by decide⟩, (Nat.le_of_ble_eq_true rfl), (Nat.le_of_ble_eq_true rfl)⟩ (Nat.le_of_ble_eq_true rfl) rfl dL_refuses_1 kxN (fun v w_1 H locs hq hP hD hS => ?_)
  refine W.widen (k := 0) (n := 0) (Nat.le_of_ble_eq_true rfl) (Nat.le_of_ble_eq_true rfl) ?_
  rw [hq.2] at hP hD
  rw [hq.1]
  dsimp only [Option.toList, List.cons_append, List.nil_append]
  refine lv_istore (lv' := [(4, .int (iv (n 3))), (0, .ref x), (1, .int (iv pa)), (2, .int (iv la)), (3, .int (iv ca))]) (pc := 4) hx hb dL_refuses_4 hl (by decide) rfl (fun ls hl => ?_)
  refine lv_aload_n (pc := 6) hx hb dL_refuses_6 rfl (lv_at hl 1 rfl) ?_
  refine c_callV (pc := 7) (y := yX4_clashes) (As := []) (rest := []) hC hE hP hD hS hl.1 (K_clashes l ε hst hH) m_2_8 m_2_9 m_2_10 m_0_2 m_2_11 hob rfl hd_yX4_clashes rfl ⟨⟨by decide, by decide⟩, (Nat.le_of_ble_eq_true rfl), (Nat.le_of_ble_eq_true rfl)⟩ (Nat.le_of_ble_eq_true rfl) rfl dL_refuses_7 kxN (fun v w_2 H locs hq hP hD hS => ?_)
  refine W.widen (k := 0) (n := 0) (Nat.le_of_ble_eq_true rfl) (Nat.le_of_ble_eq_true rfl) ?_
  rw [hq.2] at hP hD
  rw [hq.1]
  dsimp only [Option.toList, List.cons_append, List.nil_append]
  refine lv_istore (lv' := [(5, .int (iv (clcB G (n 2).toNat))), (4, .int (iv (n 3))), (0, .ref x), (1, .int (iv pa)), (2, .int (iv la)), (3, .int (iv ca))]) (pc := 10) hx hb dL_refuses_10 hl (by decide) rfl (fun ls hl => ?_)
  refine lv_ldc (pc := 12) (own := RL) (v := iv 2147483647) hx hb hC.2.2.2.1 (by rw [show iv 2147483647 = (2147483647 : Int32) by decide]; exact hC.2.2.2.2.1 _ m_1_22) dL_refuses_12 ?_
  refine lv_istore (lv' := [(6, .int (iv 2147483647)), (5, .int (iv (clcB G (n 2).toNat))), (4, .int (iv (n 3))), (0, .ref x), (1, .int (iv pa)), (2, .int (iv la)), (3, .int (iv ca))]) (pc := 14) hx hb dL_refuses_14 hl (by decide) rfl (fun ls hl => ?_)
  refine lv_iconst (pc := 16) (v := iv 0) hx hb dL_refuses_16 rfl ?_
  refine lv_istore (lv' := [(7, .int (iv 0)), (6, .int (iv 2147483647)), (5, .int (iv (clcB G (n 2).toNat))), (4, .int (iv (n 3))), (0, .ref x), (1, .int (iv pa)), (2, .int (iv la)), (3, .int (iv ca))]) (pc := 17) hx hb dL_refuses_17 hl (by decide) rfl (fun ls hl => ?_)
  refine W.widen (k := 0) (n := 0) (Nat.le_of_ble_eq_true rfl) (Nat.le_of_ble_eq_true rfl) ?_
  exact hnx _ _ _ _ _ _ _ _ _ hC hE hQ _ _ _ _ rfl hP hD hS (lv_sub hl [4, 5, 6, 7, 3, 2, 1, 0] rfl)
set_option maxRecDepth 100000 in
set_option maxHeartbeats 8000000 in
theorem sr_1 (l : Launch) (ε : EV) (hst : l.stackTraces = false) {x : Nat} {n : Nat → Int} {G : Nat → Nat → Int} {w : va_W} (hHw : HS ε x n G w) (pa la ca : Int) (hpa : pa = n 1) (hla : la = n 2) (hca : ca = n 4) (h3 : n 3 < 512) (hnx : SEG l ε yL_refuses cL_refuses 16 rm_A_refuses (fun v z => v = some (.int (iv 1)) ∧ z = w) 409 59 5676 [(0, .ref x), (1, .int (iv pa)), (2, .int (iv la)), (3, .int (iv ca)), (4, .int (iv (n 3))), (5, .int (iv (clcB G (n 2).toNat))), (6, .int (iv 2147483647)), (7, .int (iv 0)), (8, .int (iv ((-1)))), (9, .int (iv ((-1)))), (10, .int (iv ((-1)))), (11, .int (iv ((-1)))), (12, .int (iv ((-1)))), (13, .int (iv 0)), (14, .int (iv 0)), (15, .int (iv 1))] (fun z => z = w)) : SEG l ε yL_refuses cL_refuses 16 rm_A_refuses (fun v z => v = some (.int (iv 1)) ∧ z = w) 19 0 0 [(0, .ref x), (1, .int (iv pa)), (2, .int (iv la)), (3, .int (iv ca)), (4, .int (iv (n 3))), (5, .int (iv (clcB G (n 2).toNat))), (6, .int (iv 2147483647)), (7, .int (iv 0))] (fun z => z = w) := by
  intro p9 e9 s9 m9 a9 bl9 me9 c9 Q9 hC hE hQ H locs ls w9 hH hP hD hS hl
  have hx := hC.1
  have hb := hC.2.1
  have hK := hE.K
  subst hH
  have hH := hHw
  obtain ⟨fo, hob⟩ := hH.ob
  have hI := hH.inv
  have hN := hI.NB
  have hlp := lamp_patt hI
  refine lv_iload (pc := 19) hx hb dL_refuses_19 (lv_at hl 7 rfl) ?_
  refine lv_iconst (pc := 21) (v := iv 4) hx hb dL_refuses_21 rfl ?_
  refine r_icmp_ge (pc := 22) (a := 0) (b := 4) hx hb dL_refuses_22 (tgt := 880) (by decide) ⟨by omega, by omega⟩ ⟨by omega, by omega⟩ (fun c_22 => ?_) (fun c_22 => ?_)
  · exact absurd c_22 (by decide)
  · have c_22_ := c_22
    refine lv_iload (pc := 25) hx hb dL_refuses_25 (lv_at hl 7 rfl) ?_
    refine r_if_ne (pc := 27) (a := 0) hx hb dL_refuses_27 (tgt := 34) (by decide) ⟨by omega, by omega⟩ (fun c_27 => ?_) (fun c_27 => ?_)
    · exact absurd c_27 (by decide)
    · have c_27_ := c_27
      refine lv_iconst (pc := 30) (v := iv (-1)) hx hb dL_refuses_30 rfl ?_
      refine lv_goto (pc := 31) (tgt := 50) hx hb dL_refuses_31 (by decide) ?_
      refine lv_istore (lv' := [(8, .int (iv ((-1)))), (0, .ref x), (1, .int (iv pa)), (2, .int (iv la)), (3, .int (iv ca)), (4, .int (iv (n 3))), (5, .int (iv (clcB G (n 2).toNat))), (6, .int (iv 2147483647)), (7, .int (iv 0))]) (pc := 50) hx hb dL_refuses_50 hl (by decide) rfl (fun ls hl => ?_)
      refine lv_iload (pc := 52) hx hb dL_refuses_52 (lv_at hl 8 rfl) ?_
      refine lv_iconst (pc := 54) (v := iv 1) hx hb dL_refuses_54 rfl ?_
      refine r_icmp_ne (pc := 55) (a := 0) (b := 1) hx hb dL_refuses_55 (tgt := 62) (by decide) ⟨by omega, by omega⟩ ⟨by omega, by omega⟩ (fun c_55 => ?_) (fun c_55 => ?_)
      · have c_55_ := c_55
        refine lv_iload (pc := 62) hx hb dL_refuses_62 (lv_at hl 0 rfl) ?_
        refine lv_istore (lv' := [(9, .int (iv ((-1)))), (8, .int (iv ((-1)))), (0, .ref x), (1, .int (iv pa)), (2, .int (iv la)), (3, .int (iv ca)), (4, .int (iv (n 3))), (5, .int (iv (clcB G (n 2).toNat))), (6, .int (iv 2147483647)), (7, .int (iv 0))]) (pc := 64) hx hb dL_refuses_64 hl (by decide) rfl (fun ls hl => ?_)
        refine lv_iload (pc := 66) hx hb dL_refuses_66 (lv_at hl 9 rfl) ?_
        refine lv_iconst (pc := 68) (v := iv 1) hx hb dL_refuses_68 rfl ?_
        refine r_icmp_ne (pc := 69) (a := 0) (b := 1) hx hb dL_refuses_69 (tgt := 76) (by decide) ⟨by omega, by omega⟩ ⟨by omega, by omega⟩ (fun c_69 => ?_) (fun c_69 => ?_)
        · have c_69_ := c_69
          refine lv_iload (pc := 76) hx hb dL_refuses_76 (lv_at hl 1 rfl) ?_
          refine lv_istore (lv' := [(10, .int (iv ((-1)))), (9, .int (iv ((-1)))), (8, .int (iv ((-1)))), (0, .ref x), (1, .int (iv pa)), (2, .int (iv la)), (3, .int (iv ca)), (4, .int (iv (n 3))), (5, .int (iv (clcB G (n 2).toNat))), (6, .int (iv 2147483647)), (7, .int (iv 0))]) (pc := 78) hx hb dL_refuses_78 hl (by decide) rfl (fun ls hl => ?_)
          refine lv_iload (pc := 80) hx hb dL_refuses_80 (lv_at hl 10 rfl) ?_
          refine lv_iconst (pc := 82) (v := iv 1) hx hb dL_refuses_82 rfl ?_
          refine r_icmp_ne (pc := 83) (a := 0) (b := 1) hx hb dL_refuses_83 (tgt := 90) (by decide) ⟨by omega, by omega⟩ ⟨by omega, by omega⟩ (fun c_83 => ?_) (fun c_83 => ?_)
          · have c_83_ := c_83
            refine lv_iload (pc := 90) hx hb dL_refuses_90 (lv_at hl 2 rfl) ?_
            refine lv_istore (lv' := [(11, .int (iv ((-1)))), (10, .int (iv ((-1)))), (9, .int (iv ((-1)))), (8, .int (iv ((-1)))), (0, .ref x), (1, .int (iv pa)), (2, .int (iv la)), (3, .int (iv ca)), (4, .int (iv (n 3))), (5, .int (iv (clcB G (n 2).toNat))), (6, .int (iv 2147483647)), (7, .int (iv 0))]) (pc := 92) hx hb dL_refuses_92 hl (by decide) rfl (fun ls hl => ?_)
            refine lv_iload (pc := 94) hx hb dL_refuses_94 (lv_at hl 11 rfl) ?_
            refine lv_iconst (pc := 96) (v := iv 1) hx hb dL_refuses_96 rfl ?_
            refine r_icmp_ne (pc := 97) (a := 0) (b := 1) hx hb dL_refuses_97 (tgt := 105) (by decide) ⟨by omega, by omega⟩ ⟨by omega, by omega⟩ (fun c_97 => ?_) (fun c_97 => ?_)
            · have c_97_ := c_97
              refine lv_iload (pc := 105) hx hb dL_refuses_105 (lv_at hl 3 rfl) ?_
              refine lv_istore (lv' := [(12, .int (iv ((-1)))), (11, .int (iv ((-1)))), (10, .int (iv ((-1)))), (9, .int (iv ((-1)))), (8, .int (iv ((-1)))), (0, .ref x), (1, .int (iv pa)), (2, .int (iv la)), (3, .int (iv ca)), (4, .int (iv (n 3))), (5, .int (iv (clcB G (n 2).toNat))), (6, .int (iv 2147483647)), (7, .int (iv 0))]) (pc := 107) hx hb dL_refuses_107 hl (by decide) rfl (fun ls hl => ?_)
              refine lv_iload (pc := 109) hx hb dL_refuses_109 (lv_at hl 12 rfl) ?_
              refine r_if_ne (pc := 111) (a := 0) hx hb dL_refuses_111 (tgt := 118) (by decide) ⟨by omega, by omega⟩ (fun c_111 => ?_) (fun c_111 => ?_)
              · exact absurd c_111 (by decide)
              · have c_111_ := c_111
                refine lv_iconst (pc := 114) (v := iv 0) hx hb dL_refuses_114 rfl ?_
                refine lv_goto (pc := 115) (tgt := 131) hx hb dL_refuses_115 (by decide) ?_
                refine lv_istore (lv' := [(13, .int (iv 0)), (12, .int (iv ((-1)))), (11, .int (iv ((-1)))), (10, .int (iv ((-1)))), (9, .int (iv ((-1)))), (8, .int (iv ((-1)))), (0, .ref x), (1, .int (iv pa)), (2, .int (iv la)), (3, .int (iv ca)), (4, .int (iv (n 3))), (5, .int (iv (clcB G (n 2).toNat))), (6, .int (iv 2147483647)), (7, .int (iv 0))]) (pc := 131) hx hb dL_refuses_131 hl (by decide) rfl (fun ls hl => ?_)
                refine lv_iload (pc := 133) hx hb dL_refuses_133 (lv_at hl 13 rfl) ?_
                refine r_if_ne (pc := 135) (a := 0) hx hb dL_refuses_135 (tgt := 142) (by decide) ⟨by omega, by omega⟩ (fun c_135 => ?_) (fun c_135 => ?_)
                · exact absurd c_135 (by decide)
                · have c_135_ := c_135
                  refine lv_iconst (pc := 138) (v := iv 0) hx hb dL_refuses_138 rfl ?_
                  refine lv_goto (pc := 139) (tgt := 156) hx hb dL_refuses_139 (by decide) ?_
                  refine lv_istore (lv' := [(14, .int (iv 0)), (13, .int (iv 0)), (12, .int (iv ((-1)))), (11, .int (iv ((-1)))), (10, .int (iv ((-1)))), (9, .int (iv ((-1)))), (8, .int (iv ((-1)))), (0, .ref x), (1, .int (iv pa)), (2, .int (iv la)), (3, .int (iv ca)), (4, .int (iv (n 3))), (5, .int (iv (clcB G (n 2).toNat))), (6, .int (iv 2147483647)), (7, .int (iv 0))]) (pc := 156) hx hb dL_refuses_156 hl (by decide) rfl (fun ls hl => ?_)
                  refine lv_aload_n (pc := 158) hx hb dL_refuses_158 rfl (lv_at hl 7 rfl) ?_
                  refine lv_iconst (pc := 159) (v := iv 0) hx hb dL_refuses_159 rfl ?_
                  refine lv_iload (pc := 160) hx hb dL_refuses_160 (lv_at hl 14 rfl) ?_
                  refine r_if_ne (pc := 162) (a := 0) hx hb dL_refuses_162 (tgt := 169) (by decide) ⟨by omega, by omega⟩ (fun c_162 => ?_) (fun c_162 => ?_)
                  · exact absurd c_162 (by decide)
                  · have c_162_ := c_162
                    refine lv_iconst (pc := 165) (v := iv 0) hx hb dL_refuses_165 rfl ?_
                    refine lv_goto (pc := 166) (tgt := 182) hx hb dL_refuses_166 (by decide) ?_
                    refine lv_iconst (pc := 182) (v := iv 0) hx hb dL_refuses_182 rfl ?_
                    refine lv_iconst (pc := 183) (v := iv 0) hx hb dL_refuses_183 rfl ?_
                    refine c_callSW (pc := 184) (y := yL_act) (As := [.ref x, .int (iv 0), .int (iv 0), .int (iv 0), .int (iv 0)]) (rest := []) hC hE hP hD hS hl.1 (A_phase_ia l ε hst hH 0 0 0 (by decide) (by decide) (by decide) (by omega)) m_4_18 m_4_19 m_0_5 m_4_20 hd_yL_act rfl ⟨⟨by decide, by decide⟩, (Nat.le_of_ble_eq_true rfl), (Nat.le_of_ble_eq_true rfl)⟩ (Nat.le_of_ble_eq_true rfl) rfl dL_refuses_184 kxN (fun v w_1 H locs hq hP hD hS => ?_)
                    refine W.widen (k := 2) (n := 12) (Nat.le_of_ble_eq_true rfl) (Nat.le_of_ble_eq_true rfl) ?_
                    rw [hq.2] at hP hD
                    rw [hq.1]
                    dsimp only [Option.toList, List.cons_append, List.nil_append]
                    refine lv_bipush (pc := 187) (v := iv (-72)) hx hb dL_refuses_187 (by decide) ?_
                    refine r_icmp_ne (pc := 189) (a := (-72)) (b := (-72)) hx hb dL_refuses_189 (tgt := 406) (by decide) ⟨by omega, by omega⟩ ⟨by omega, by omega⟩ (fun c_189 => ?_) (fun c_189 => ?_)
                    · exact absurd c_189 (by decide)
                    · have c_189_ := c_189
                      refine lv_aload_n (pc := 192) hx hb dL_refuses_192 rfl (lv_at hl 7 rfl) ?_
                      refine lv_iconst (pc := 193) (v := iv 2) hx hb dL_refuses_193 rfl ?_
                      refine lv_iload (pc := 194) hx hb dL_refuses_194 (lv_at hl 5 rfl) ?_
                      refine lv_iconst (pc := 196) (v := iv 0) hx hb dL_refuses_196 rfl ?_
                      refine lv_iconst (pc := 197) (v := iv 0) hx hb dL_refuses_197 rfl ?_
                      refine c_callSW (pc := 198) (y := yL_act) (As := [.ref x, .int (iv 2), .int (iv ((-1))), .int (iv 0), .int (iv 0)]) (rest := []) hC hE hP hD hS hl.1 (A_period_io l ε hst hH ((-1)) 0 0 (by decide) (by decide) (by decide) (by omega)) m_4_18 m_4_19 m_0_5 m_4_20 hd_yL_act rfl ⟨⟨by decide, by decide⟩, (Nat.le_of_ble_eq_true rfl), (Nat.le_of_ble_eq_true rfl)⟩ (Nat.le_of_ble_eq_true rfl) rfl dL_refuses_198 kxN (fun v w_2 H locs hq hP hD hS => ?_)
                      refine W.widen (k := 3) (n := 18) (Nat.le_of_ble_eq_true rfl) (Nat.le_of_ble_eq_true rfl) ?_
                      rw [hq.2] at hP hD
                      rw [hq.1]
                      dsimp only [Option.toList, List.cons_append, List.nil_append]
                      refine lv_bipush (pc := 201) (v := iv (-71)) hx hb dL_refuses_201 (by decide) ?_
                      refine r_icmp_ne (pc := 203) (a := (-71)) (b := (-71)) hx hb dL_refuses_203 (tgt := 406) (by decide) ⟨by omega, by omega⟩ ⟨by omega, by omega⟩ (fun c_203 => ?_) (fun c_203 => ?_)
                      · exact absurd c_203 (by decide)
                      · have c_203_ := c_203
                        refine lv_aload_n (pc := 206) hx hb dL_refuses_206 rfl (lv_at hl 7 rfl) ?_
                        refine lv_iconst (pc := 207) (v := iv 3) hx hb dL_refuses_207 rfl ?_
                        refine lv_iload (pc := 208) hx hb dL_refuses_208 (lv_at hl 5 rfl) ?_
                        refine lv_iload (pc := 210) hx hb dL_refuses_210 (lv_at hl 5 rfl) ?_
                        refine lv_iconst (pc := 212) (v := iv 0) hx hb dL_refuses_212 rfl ?_
                        refine c_callSW (pc := 213) (y := yL_act) (As := [.ref x, .int (iv 3), .int (iv ((-1))), .int (iv ((-1))), .int (iv 0)]) (rest := []) hC hE hP hD hS hl.1 (A_alike_io l ε hst hH ((-1)) ((-1)) 0 (by decide) (by decide) (by decide) (by omega)) m_4_18 m_4_19 m_0_5 m_4_20 hd_yL_act rfl ⟨⟨by decide, by decide⟩, (Nat.le_of_ble_eq_true rfl), (Nat.le_of_ble_eq_true rfl)⟩ (Nat.le_of_ble_eq_true rfl) rfl dL_refuses_213 kxN (fun v w_3 H locs hq hP hD hS => ?_)
                        refine W.widen (k := 5) (n := 30) (Nat.le_of_ble_eq_true rfl) (Nat.le_of_ble_eq_true rfl) ?_
                        rw [hq.2] at hP hD
                        rw [hq.1]
                        dsimp only [Option.toList, List.cons_append, List.nil_append]
                        refine lv_bipush (pc := 216) (v := iv (-71)) hx hb dL_refuses_216 (by decide) ?_
                        refine r_icmp_ne (pc := 218) (a := (-71)) (b := (-71)) hx hb dL_refuses_218 (tgt := 406) (by decide) ⟨by omega, by omega⟩ ⟨by omega, by omega⟩ (fun c_218 => ?_) (fun c_218 => ?_)
                        · exact absurd c_218 (by decide)
                        · have c_218_ := c_218
                          refine lv_aload_n (pc := 221) hx hb dL_refuses_221 rfl (lv_at hl 7 rfl) ?_
                          refine lv_iconst (pc := 222) (v := iv 4) hx hb dL_refuses_222 rfl ?_
                          refine lv_iload (pc := 223) hx hb dL_refuses_223 (lv_at hl 5 rfl) ?_
                          refine lv_iload (pc := 225) hx hb dL_refuses_225 (lv_at hl 5 rfl) ?_
                          refine lv_iconst (pc := 227) (v := iv 0) hx hb dL_refuses_227 rfl ?_
                          refine c_callSW (pc := 228) (y := yL_act) (As := [.ref x, .int (iv 4), .int (iv ((-1))), .int (iv ((-1))), .int (iv 0)]) (rest := []) hC hE hP hD hS hl.1 (A_alikes_io l ε hst hH ((-1)) ((-1)) 0 (by decide) (by decide) (by decide) (by omega)) m_4_18 m_4_19 m_0_5 m_4_20 hd_yL_act rfl ⟨⟨by decide, by decide⟩, (Nat.le_of_ble_eq_true rfl), (Nat.le_of_ble_eq_true rfl)⟩ (Nat.le_of_ble_eq_true rfl) rfl dL_refuses_228 kxN (fun v w_4 H locs hq hP hD hS => ?_)
                          refine W.widen (k := 7) (n := 42) (Nat.le_of_ble_eq_true rfl) (Nat.le_of_ble_eq_true rfl) ?_
                          rw [hq.2] at hP hD
                          rw [hq.1]
                          dsimp only [Option.toList, List.cons_append, List.nil_append]
                          refine lv_bipush (pc := 231) (v := iv (-71)) hx hb dL_refuses_231 (by decide) ?_
                          refine r_icmp_ne (pc := 233) (a := (-71)) (b := (-71)) hx hb dL_refuses_233 (tgt := 406) (by decide) ⟨by omega, by omega⟩ ⟨by omega, by omega⟩ (fun c_233 => ?_) (fun c_233 => ?_)
                          · exact absurd c_233 (by decide)
                          · have c_233_ := c_233
                            refine lv_aload_n (pc := 236) hx hb dL_refuses_236 rfl (lv_at hl 7 rfl) ?_
                            refine lv_iconst (pc := 237) (v := iv (-1)) hx hb dL_refuses_237 rfl ?_
                            refine lv_iconst (pc := 238) (v := iv 0) hx hb dL_refuses_238 rfl ?_
                            refine lv_iload (pc := 239) hx hb dL_refuses_239 (lv_at hl 5 rfl) ?_
                            refine lv_iconst (pc := 241) (v := iv 0) hx hb dL_refuses_241 rfl ?_
                            refine lv_iconst (pc := 242) (v := iv 0) hx hb dL_refuses_242 rfl ?_
                            refine c_callSW (pc := 243) (y := yL_lamp) (As := [.ref x, .int (iv ((-1))), .int (iv 0), .int (iv ((-1))), .int (iv 0), .int (iv 0)]) (rest := []) hC hE hP hD hS hl.1 (A_lamp_io l ε hst hH ((-1)) 0 ((-1)) 0 0 (by decide) (by decide) (by decide) (by decide) (by decide) h3 (by omega)) m_14_15 m_14_16 m_0_5 m_14_17 hd_yL_lamp rfl ⟨⟨by decide, by decide⟩, (Nat.le_of_ble_eq_true rfl), (Nat.le_of_ble_eq_true rfl)⟩ (Nat.le_of_ble_eq_true rfl) rfl dL_refuses_243 kxN (fun v w_5 H locs hq hP hD hS => ?_)
                            refine W.widen (k := 21) (n := 3342) (Nat.le_of_ble_eq_true rfl) (Nat.le_of_ble_eq_true rfl) ?_
                            rw [hq.2] at hP hD
                            rw [hq.1]
                            dsimp only [Option.toList, List.cons_append, List.nil_append]
                            refine lv_bipush (pc := 246) (v := iv (-71)) hx hb dL_refuses_246 (by decide) ?_
                            refine r_icmp_ne (pc := 248) (a := (-71)) (b := (-71)) hx hb dL_refuses_248 (tgt := 406) (by decide) ⟨by omega, by omega⟩ ⟨by omega, by omega⟩ (fun c_248 => ?_) (fun c_248 => ?_)
                            · exact absurd c_248 (by decide)
                            · have c_248_ := c_248
                              refine lv_aload_n (pc := 251) hx hb dL_refuses_251 rfl (lv_at hl 7 rfl) ?_
                              refine lv_iconst (pc := 252) (v := iv 5) hx hb dL_refuses_252 rfl ?_
                              refine lv_iload (pc := 253) hx hb dL_refuses_253 (lv_at hl 4 rfl) ?_
                              refine lv_iconst (pc := 255) (v := iv 0) hx hb dL_refuses_255 rfl ?_
                              refine lv_iconst (pc := 256) (v := iv (-1)) hx hb dL_refuses_256 rfl ?_
                              refine c_callSW (pc := 257) (y := yL_act) (As := [.ref x, .int (iv 5), .int (iv ((-1))), .int (iv 0), .int (iv ((-1)))]) (rest := []) hC hE hP hD hS hl.1 (A_change_io l ε hst hH ((-1)) 0 ((-1)) (by decide) (by decide) (by decide) h3 (by omega)) m_4_18 m_4_19 m_0_5 m_4_20 hd_yL_act rfl ⟨⟨by decide, by decide⟩, (Nat.le_of_ble_eq_true rfl), (Nat.le_of_ble_eq_true rfl)⟩ (Nat.le_of_ble_eq_true rfl) rfl dL_refuses_257 kxN (fun v w_6 H locs hq hP hD hS => ?_)
                              refine W.widen (k := 29) (n := 4442) (Nat.le_of_ble_eq_true rfl) (Nat.le_of_ble_eq_true rfl) ?_
                              rw [hq.2] at hP hD
                              rw [hq.1]
                              dsimp only [Option.toList, List.cons_append, List.nil_append]
                              refine lv_bipush (pc := 260) (v := iv (-71)) hx hb dL_refuses_260 (by decide) ?_
                              refine r_icmp_ne (pc := 262) (a := (-71)) (b := (-71)) hx hb dL_refuses_262 (tgt := 406) (by decide) ⟨by omega, by omega⟩ ⟨by omega, by omega⟩ (fun c_262 => ?_) (fun c_262 => ?_)
                              · exact absurd c_262 (by decide)
                              · have c_262_ := c_262
                                refine lv_aload_n (pc := 265) hx hb dL_refuses_265 rfl (lv_at hl 7 rfl) ?_
                                refine lv_bipush (pc := 266) (v := iv 6) hx hb dL_refuses_266 (by decide) ?_
                                refine lv_iload (pc := 268) hx hb dL_refuses_268 (lv_at hl 4 rfl) ?_
                                refine lv_iconst (pc := 270) (v := iv 1) hx hb dL_refuses_270 rfl ?_
                                refine lv_iconst (pc := 271) (v := iv 0) hx hb dL_refuses_271 rfl ?_
                                refine c_callSW (pc := 272) (y := yL_act) (As := [.ref x, .int (iv 6), .int (iv ((-1))), .int (iv 1), .int (iv 0)]) (rest := []) hC hE hP hD hS hl.1 (A_fail1_io l ε hst hH ((-1)) 0 (by decide) (by decide) h3 (by omega)) m_4_18 m_4_19 m_0_5 m_4_20 hd_yL_act rfl ⟨⟨by decide, by decide⟩, (Nat.le_of_ble_eq_true rfl), (Nat.le_of_ble_eq_true rfl)⟩ (Nat.le_of_ble_eq_true rfl) rfl dL_refuses_272 kxN (fun v w_7 H locs hq hP hD hS => ?_)
                                refine W.widen (k := 37) (n := 5542) (Nat.le_of_ble_eq_true rfl) (Nat.le_of_ble_eq_true rfl) ?_
                                rw [hq.2] at hP hD
                                rw [hq.1]
                                dsimp only [Option.toList, List.cons_append, List.nil_append]
                                refine lv_bipush (pc := 275) (v := iv (-71)) hx hb dL_refuses_275 (by decide) ?_
                                refine r_icmp_ne (pc := 277) (a := (-71)) (b := (-71)) hx hb dL_refuses_277 (tgt := 406) (by decide) ⟨by omega, by omega⟩ ⟨by omega, by omega⟩ (fun c_277 => ?_) (fun c_277 => ?_)
                                · exact absurd c_277 (by decide)
                                · have c_277_ := c_277
                                  refine lv_aload_n (pc := 280) hx hb dL_refuses_280 rfl (lv_at hl 7 rfl) ?_
                                  refine lv_bipush (pc := 281) (v := iv 7) hx hb dL_refuses_281 (by decide) ?_
                                  refine lv_iload (pc := 283) hx hb dL_refuses_283 (lv_at hl 4 rfl) ?_
                                  refine lv_iconst (pc := 285) (v := iv (-1)) hx hb dL_refuses_285 rfl ?_
                                  refine lv_iconst (pc := 286) (v := iv 0) hx hb dL_refuses_286 rfl ?_
                                  refine c_callSW (pc := 287) (y := yL_act) (As := [.ref x, .int (iv 7), .int (iv ((-1))), .int (iv ((-1))), .int (iv 0)]) (rest := []) hC hE hP hD hS hl.1 (A_shines_io l ε hst hH ((-1)) ((-1)) 0 (by decide) (by decide) (by decide) (by omega)) m_4_18 m_4_19 m_0_5 m_4_20 hd_yL_act rfl ⟨⟨by decide, by decide⟩, (Nat.le_of_ble_eq_true rfl), (Nat.le_of_ble_eq_true rfl)⟩ (Nat.le_of_ble_eq_true rfl) rfl dL_refuses_287 kxN (fun v w_8 H locs hq hP hD hS => ?_)
                                  refine W.widen (k := 39) (n := 5554) (Nat.le_of_ble_eq_true rfl) (Nat.le_of_ble_eq_true rfl) ?_
                                  rw [hq.2] at hP hD
                                  rw [hq.1]
                                  dsimp only [Option.toList, List.cons_append, List.nil_append]
                                  refine lv_bipush (pc := 290) (v := iv (-71)) hx hb dL_refuses_290 (by decide) ?_
                                  refine r_icmp_ne (pc := 292) (a := (-71)) (b := (-71)) hx hb dL_refuses_292 (tgt := 406) (by decide) ⟨by omega, by omega⟩ ⟨by omega, by omega⟩ (fun c_292 => ?_) (fun c_292 => ?_)
                                  · exact absurd c_292 (by decide)
                                  · have c_292_ := c_292
                                    refine lv_aload_n (pc := 295) hx hb dL_refuses_295 rfl (lv_at hl 7 rfl) ?_
                                    refine lv_bipush (pc := 296) (v := iv 8) hx hb dL_refuses_296 (by decide) ?_
                                    refine lv_iload (pc := 298) hx hb dL_refuses_298 (lv_at hl 4 rfl) ?_
                                    refine lv_iconst (pc := 300) (v := iv (-1)) hx hb dL_refuses_300 rfl ?_
                                    refine lv_iconst (pc := 301) (v := iv 0) hx hb dL_refuses_301 rfl ?_
                                    refine c_callSW (pc := 302) (y := yL_act) (As := [.ref x, .int (iv 8), .int (iv ((-1))), .int (iv ((-1))), .int (iv 0)]) (rest := []) hC hE hP hD hS hl.1 (A_sector_io l ε hst hH ((-1)) ((-1)) 0 (by decide) (by decide) (by decide) (by omega)) m_4_18 m_4_19 m_0_5 m_4_20 hd_yL_act rfl ⟨⟨by decide, by decide⟩, (Nat.le_of_ble_eq_true rfl), (Nat.le_of_ble_eq_true rfl)⟩ (Nat.le_of_ble_eq_true rfl) rfl dL_refuses_302 kxN (fun v w_9 H locs hq hP hD hS => ?_)
                                    refine W.widen (k := 42) (n := 5572) (Nat.le_of_ble_eq_true rfl) (Nat.le_of_ble_eq_true rfl) ?_
                                    rw [hq.2] at hP hD
                                    rw [hq.1]
                                    dsimp only [Option.toList, List.cons_append, List.nil_append]
                                    refine lv_bipush (pc := 305) (v := iv (-71)) hx hb dL_refuses_305 (by decide) ?_
                                    refine r_icmp_ne (pc := 307) (a := (-71)) (b := (-71)) hx hb dL_refuses_307 (tgt := 406) (by decide) ⟨by omega, by omega⟩ ⟨by omega, by omega⟩ (fun c_307 => ?_) (fun c_307 => ?_)
                                    · exact absurd c_307 (by decide)
                                    · have c_307_ := c_307
                                      refine lv_aload_n (pc := 310) hx hb dL_refuses_310 rfl (lv_at hl 7 rfl) ?_
                                      refine lv_bipush (pc := 311) (v := iv 9) hx hb dL_refuses_311 (by decide) ?_
                                      refine lv_iload (pc := 313) hx hb dL_refuses_313 (lv_at hl 4 rfl) ?_
                                      refine lv_iconst (pc := 315) (v := iv (-1)) hx hb dL_refuses_315 rfl ?_
                                      refine lv_iconst (pc := 316) (v := iv 0) hx hb dL_refuses_316 rfl ?_
                                      refine c_callSW (pc := 317) (y := yL_act) (As := [.ref x, .int (iv 9), .int (iv ((-1))), .int (iv ((-1))), .int (iv 0)]) (rest := []) hC hE hP hD hS hl.1 (A_isSeen_io l ε hst hH ((-1)) ((-1)) 0 (by decide) (by decide) (by decide) (by omega)) m_4_18 m_4_19 m_0_5 m_4_20 hd_yL_act rfl ⟨⟨by decide, by decide⟩, (Nat.le_of_ble_eq_true rfl), (Nat.le_of_ble_eq_true rfl)⟩ (Nat.le_of_ble_eq_true rfl) rfl dL_refuses_317 kxN (fun v w_10 H locs hq hP hD hS => ?_)
                                      refine W.widen (k := 45) (n := 5590) (Nat.le_of_ble_eq_true rfl) (Nat.le_of_ble_eq_true rfl) ?_
                                      rw [hq.2] at hP hD
                                      rw [hq.1]
                                      dsimp only [Option.toList, List.cons_append, List.nil_append]
                                      refine lv_bipush (pc := 320) (v := iv (-71)) hx hb dL_refuses_320 (by decide) ?_
                                      refine r_icmp_ne (pc := 322) (a := (-71)) (b := (-71)) hx hb dL_refuses_322 (tgt := 406) (by decide) ⟨by omega, by omega⟩ ⟨by omega, by omega⟩ (fun c_322 => ?_) (fun c_322 => ?_)
                                      · exact absurd c_322 (by decide)
                                      · have c_322_ := c_322
                                        refine lv_aload_n (pc := 325) hx hb dL_refuses_325 rfl (lv_at hl 7 rfl) ?_
                                        refine lv_bipush (pc := 326) (v := iv 10) hx hb dL_refuses_326 (by decide) ?_
                                        refine lv_iload (pc := 328) hx hb dL_refuses_328 (lv_at hl 4 rfl) ?_
                                        refine lv_iload (pc := 330) hx hb dL_refuses_330 (lv_at hl 4 rfl) ?_
                                        refine lv_iconst (pc := 332) (v := iv 0) hx hb dL_refuses_332 rfl ?_
                                        refine c_callSW (pc := 333) (y := yL_act) (As := [.ref x, .int (iv 10), .int (iv ((-1))), .int (iv ((-1))), .int (iv 0)]) (rest := []) hC hE hP hD hS hl.1 (A_common_io l ε hst hH ((-1)) ((-1)) 0 (by decide) (by decide) (by decide) (by omega)) m_4_18 m_4_19 m_0_5 m_4_20 hd_yL_act rfl ⟨⟨by decide, by decide⟩, (Nat.le_of_ble_eq_true rfl), (Nat.le_of_ble_eq_true rfl)⟩ (Nat.le_of_ble_eq_true rfl) rfl dL_refuses_333 kxN (fun v w_11 H locs hq hP hD hS => ?_)
                                        refine W.widen (k := 47) (n := 5602) (Nat.le_of_ble_eq_true rfl) (Nat.le_of_ble_eq_true rfl) ?_
                                        rw [hq.2] at hP hD
                                        rw [hq.1]
                                        dsimp only [Option.toList, List.cons_append, List.nil_append]
                                        refine lv_bipush (pc := 336) (v := iv (-71)) hx hb dL_refuses_336 (by decide) ?_
                                        refine r_icmp_ne (pc := 338) (a := (-71)) (b := (-71)) hx hb dL_refuses_338 (tgt := 406) (by decide) ⟨by omega, by omega⟩ ⟨by omega, by omega⟩ (fun c_338 => ?_) (fun c_338 => ?_)
                                        · exact absurd c_338 (by decide)
                                        · have c_338_ := c_338
                                          refine lv_aload_n (pc := 341) hx hb dL_refuses_341 rfl (lv_at hl 7 rfl) ?_
                                          refine lv_bipush (pc := 342) (v := iv 12) hx hb dL_refuses_342 (by decide) ?_
                                          refine lv_iload (pc := 344) hx hb dL_refuses_344 (lv_at hl 3 rfl) ?_
                                          refine lv_iconst (pc := 346) (v := iv 0) hx hb dL_refuses_346 rfl ?_
                                          refine lv_iconst (pc := 347) (v := iv 0) hx hb dL_refuses_347 rfl ?_
                                          refine c_callSW (pc := 348) (y := yL_act) (As := [.ref x, .int (iv 12), .int (iv ((-1))), .int (iv 0), .int (iv 0)]) (rest := []) hC hE hP hD hS hl.1 (A_correct_io l ε hst hH ((-1)) 0 0 (by decide) (by decide) (by decide) (by omega)) m_4_18 m_4_19 m_0_5 m_4_20 hd_yL_act rfl ⟨⟨by decide, by decide⟩, (Nat.le_of_ble_eq_true rfl), (Nat.le_of_ble_eq_true rfl)⟩ (Nat.le_of_ble_eq_true rfl) rfl dL_refuses_348 kxN (fun v w_12 H locs hq hP hD hS => ?_)
                                          refine W.widen (k := 50) (n := 5622) (Nat.le_of_ble_eq_true rfl) (Nat.le_of_ble_eq_true rfl) ?_
                                          rw [hq.2] at hP hD
                                          rw [hq.1]
                                          dsimp only [Option.toList, List.cons_append, List.nil_append]
                                          refine lv_bipush (pc := 351) (v := iv (-71)) hx hb dL_refuses_351 (by decide) ?_
                                          refine r_icmp_ne (pc := 353) (a := (-71)) (b := (-71)) hx hb dL_refuses_353 (tgt := 406) (by decide) ⟨by omega, by omega⟩ ⟨by omega, by omega⟩ (fun c_353 => ?_) (fun c_353 => ?_)
                                          · exact absurd c_353 (by decide)
                                          · have c_353_ := c_353
                                            refine lv_aload_n (pc := 356) hx hb dL_refuses_356 rfl (lv_at hl 7 rfl) ?_
                                            refine lv_bipush (pc := 357) (v := iv 13) hx hb dL_refuses_357 (by decide) ?_
                                            refine lv_iload (pc := 359) hx hb dL_refuses_359 (lv_at hl 3 rfl) ?_
                                            refine lv_iconst (pc := 361) (v := iv 0) hx hb dL_refuses_361 rfl ?_
                                            refine lv_iconst (pc := 362) (v := iv 0) hx hb dL_refuses_362 rfl ?_
                                            refine c_callSW (pc := 363) (y := yL_act) (As := [.ref x, .int (iv 13), .int (iv ((-1))), .int (iv 0), .int (iv 0)]) (rest := []) hC hE hP hD hS hl.1 (A_behind_io l ε hst hH ((-1)) 0 0 (by decide) (by decide) (by decide) (by omega)) m_4_18 m_4_19 m_0_5 m_4_20 hd_yL_act rfl ⟨⟨by decide, by decide⟩, (Nat.le_of_ble_eq_true rfl), (Nat.le_of_ble_eq_true rfl)⟩ (Nat.le_of_ble_eq_true rfl) rfl dL_refuses_363 kxN (fun v w_13 H locs hq hP hD hS => ?_)
                                            refine W.widen (k := 51) (n := 5628) (Nat.le_of_ble_eq_true rfl) (Nat.le_of_ble_eq_true rfl) ?_
                                            rw [hq.2] at hP hD
                                            rw [hq.1]
                                            dsimp only [Option.toList, List.cons_append, List.nil_append]
                                            refine lv_bipush (pc := 366) (v := iv (-71)) hx hb dL_refuses_366 (by decide) ?_
                                            refine r_icmp_ne (pc := 368) (a := (-71)) (b := (-71)) hx hb dL_refuses_368 (tgt := 406) (by decide) ⟨by omega, by omega⟩ ⟨by omega, by omega⟩ (fun c_368 => ?_) (fun c_368 => ?_)
                                            · exact absurd c_368 (by decide)
                                            · have c_368_ := c_368
                                              refine lv_aload_n (pc := 371) hx hb dL_refuses_371 rfl (lv_at hl 7 rfl) ?_
                                              refine lv_bipush (pc := 372) (v := iv 14) hx hb dL_refuses_372 (by decide) ?_
                                              refine lv_iload (pc := 374) hx hb dL_refuses_374 (lv_at hl 3 rfl) ?_
                                              refine lv_iconst (pc := 376) (v := iv 0) hx hb dL_refuses_376 rfl ?_
                                              refine lv_iconst (pc := 377) (v := iv 0) hx hb dL_refuses_377 rfl ?_
                                              refine c_callSW (pc := 378) (y := yL_act) (As := [.ref x, .int (iv 14), .int (iv ((-1))), .int (iv 0), .int (iv 0)]) (rest := []) hC hE hP hD hS hl.1 (A_shown_io l ε hst hH ((-1)) 0 0 (by decide) (by decide) (by decide) (by omega)) m_4_18 m_4_19 m_0_5 m_4_20 hd_yL_act rfl ⟨⟨by decide, by decide⟩, (Nat.le_of_ble_eq_true rfl), (Nat.le_of_ble_eq_true rfl)⟩ (Nat.le_of_ble_eq_true rfl) rfl dL_refuses_378 kxN (fun v w_14 H locs hq hP hD hS => ?_)
                                              refine W.widen (k := 53) (n := 5640) (Nat.le_of_ble_eq_true rfl) (Nat.le_of_ble_eq_true rfl) ?_
                                              rw [hq.2] at hP hD
                                              rw [hq.1]
                                              dsimp only [Option.toList, List.cons_append, List.nil_append]
                                              refine lv_bipush (pc := 381) (v := iv (-71)) hx hb dL_refuses_381 (by decide) ?_
                                              refine r_icmp_ne (pc := 383) (a := (-71)) (b := (-71)) hx hb dL_refuses_383 (tgt := 406) (by decide) ⟨by omega, by omega⟩ ⟨by omega, by omega⟩ (fun c_383 => ?_) (fun c_383 => ?_)
                                              · exact absurd c_383 (by decide)
                                              · have c_383_ := c_383
                                                refine lv_aload_n (pc := 386) hx hb dL_refuses_386 rfl (lv_at hl 7 rfl) ?_
                                                refine lv_iload (pc := 387) hx hb dL_refuses_387 (lv_at hl 3 rfl) ?_
                                                refine lv_iconst (pc := 389) (v := iv (-1)) hx hb dL_refuses_389 rfl ?_
                                                refine lv_iconst (pc := 390) (v := iv 0) hx hb dL_refuses_390 rfl ?_
                                                refine lv_iconst (pc := 391) (v := iv 0) hx hb dL_refuses_391 rfl ?_
                                                refine lv_iconst (pc := 392) (v := iv 0) hx hb dL_refuses_392 rfl ?_
                                                refine lv_iconst (pc := 393) (v := iv 1) hx hb dL_refuses_393 rfl ?_
                                                refine c_callSW (pc := 394) (y := yL_taken) (As := [.ref x, .int (iv ((-1))), .int (iv ((-1))), .int (iv 0), .int (iv 0), .int (iv 0), .int (iv 1)]) (rest := []) hC hE hP hD hS hl.1 (A_taken_io l ε hst hH ((-1)) ((-1)) 0 0 0 1 (by decide) (by decide) (by decide) (by decide) (by decide) (by decide) (by omega)) m_15_12 m_15_13 m_0_5 m_15_14 hd_yL_taken rfl ⟨⟨by decide, by decide⟩, (Nat.le_of_ble_eq_true rfl), (Nat.le_of_ble_eq_true rfl)⟩ (Nat.le_of_ble_eq_true rfl) rfl dL_refuses_394 kxN (fun v w_15 H locs hq hP hD hS => ?_)
                                                refine W.widen (k := 59) (n := 5676) (Nat.le_of_ble_eq_true rfl) (Nat.le_of_ble_eq_true rfl) ?_
                                                rw [hq.2] at hP hD
                                                rw [hq.1]
                                                dsimp only [Option.toList, List.cons_append, List.nil_append]
                                                refine lv_bipush (pc := 397) (v := iv (-71)) hx hb dL_refuses_397 (by decide) ?_
                                                refine r_icmp_ne (pc := 399) (a := (-71)) (b := (-71)) hx hb dL_refuses_399 (tgt := 406) (by decide) ⟨by omega, by omega⟩ ⟨by omega, by omega⟩ (fun c_399 => ?_) (fun c_399 => ?_)
                                                · exact absurd c_399 (by decide)
                                                · have c_399_ := c_399
                                                  refine lv_iconst (pc := 402) (v := iv 1) hx hb dL_refuses_402 rfl ?_
                                                  refine lv_goto (pc := 403) (tgt := 407) hx hb dL_refuses_403 (by decide) ?_
                                                  refine lv_istore (lv' := [(15, .int (iv 1)), (14, .int (iv 0)), (13, .int (iv 0)), (12, .int (iv ((-1)))), (11, .int (iv ((-1)))), (10, .int (iv ((-1)))), (9, .int (iv ((-1)))), (8, .int (iv ((-1)))), (0, .ref x), (1, .int (iv pa)), (2, .int (iv la)), (3, .int (iv ca)), (4, .int (iv (n 3))), (5, .int (iv (clcB G (n 2).toNat))), (6, .int (iv 2147483647)), (7, .int (iv 0))]) (pc := 407) hx hb dL_refuses_407 hl (by decide) rfl (fun ls hl => ?_)
                                                  refine W.widen (k := 59) (n := 5676) (Nat.le_of_ble_eq_true rfl) (Nat.le_of_ble_eq_true rfl) ?_
                                                  exact hnx _ _ _ _ _ _ _ _ _ hC hE hQ _ _ _ _ rfl hP hD hS (lv_sub hl [8, 9, 10, 11, 12, 13, 14, 15, 7, 6, 5, 4, 3, 2, 1, 0] rfl)
            · exact absurd c_97 (by decide)
          · exact absurd c_83 (by decide)
        · exact absurd c_69 (by decide)
      · exact absurd c_55 (by decide)
set_option maxRecDepth 100000 in
set_option maxHeartbeats 8000000 in
theorem sr_2 (l : Launch) (ε : EV) (hst : l.stackTraces = false) {x : Nat} {n : Nat → Int} {G : Nat → Nat → Int} {w : va_W} (hHw : HS ε x n G w) (pa la ca : Int) (hpa : pa = n 1) (hla : la = n 2) (hca : ca = n 4) (h3 : n 3 < 512) (hnx : SEG l ε yL_refuses cL_refuses 16 rm_A_refuses (fun v z => v = some (.int (iv 1)) ∧ z = w) 513 119 18900 [(0, .ref x), (1, .int (iv pa)), (2, .int (iv la)), (3, .int (iv ca)), (4, .int (iv (n 3))), (5, .int (iv (clcB G (n 2).toNat))), (6, .int (iv 2147483647)), (7, .int (iv 0)), (8, .int (iv ((-1)))), (9, .int (iv ((-1)))), (10, .int (iv ((-1)))), (11, .int (iv ((-1)))), (12, .int (iv ((-1)))), (13, .int (iv 0)), (14, .int (iv 0)), (15, .int (iv 1))] (fun z => z = w)) : SEG l ε yL_refuses cL_refuses 16 rm_A_refuses (fun v z => v = some (.int (iv 1)) ∧ z = w) 409 59 5676 [(0, .ref x), (1, .int (iv pa)), (2, .int (iv la)), (3, .int (iv ca)), (4, .int (iv (n 3))), (5, .int (iv (clcB G (n 2).toNat))), (6, .int (iv 2147483647)), (7, .int (iv 0)), (8, .int (iv ((-1)))), (9, .int (iv ((-1)))), (10, .int (iv ((-1)))), (11, .int (iv ((-1)))), (12, .int (iv ((-1)))), (13, .int (iv 0)), (14, .int (iv 0)), (15, .int (iv 1))] (fun z => z = w) := by
  intro p9 e9 s9 m9 a9 bl9 me9 c9 Q9 hC hE hQ H locs ls w9 hH hP hD hS hl
  have hx := hC.1
  have hb := hC.2.1
  have hK := hE.K
  subst hH
  have hH := hHw
  obtain ⟨fo, hob⟩ := hH.ob
  have hI := hH.inv
  have hN := hI.NB
  have hlp := lamp_patt hI
  refine lv_iload_n (pc := 409) hx hb dL_refuses_409 rfl (lv_at hl 1 rfl) ?_
  refine r_if_le (pc := 410) (a := pa) hx hb dL_refuses_410 (tgt := 513) (by decide) ⟨by omega, by omega⟩ (fun c_410 => ?_) (fun c_410 => ?_)
  · have c_410_ := c_410
    refine W.widen (k := 119) (n := 18900) (Nat.le_of_ble_eq_true rfl) (Nat.le_of_ble_eq_true rfl) ?_
    exact hnx _ _ _ _ _ _ _ _ _ hC hE hQ _ _ _ _ rfl hP hD hS (lv_sub hl [0, 1, 2, 3, 4, 5, 6, 7, 8, 9, 10, 11, 12, 13, 14, 15] rfl)
  · have c_410_ := c_410
    refine lv_iload (pc := 413) hx hb dL_refuses_413 (lv_at hl 15 rfl) ?_
    refine r_if_eq (pc := 415) (a := 1) hx hb dL_refuses_415 (tgt := 510) (by decide) ⟨by omega, by omega⟩ (fun c_415 => ?_) (fun c_415 => ?_)
    · exact absurd c_415 (by decide)
    · have c_415_ := c_415
      refine lv_aload_n (pc := 418) hx hb dL_refuses_418 rfl (lv_at hl 0 rfl) ?_
      refine lv_iconst (pc := 419) (v := iv 3) hx hb dL_refuses_419 rfl ?_
      refine lv_iconst (pc := 420) (v := iv 0) hx hb dL_refuses_420 rfl ?_
      refine lv_iload (pc := 421) hx hb dL_refuses_421 (lv_at hl 9 rfl) ?_
      refine lv_iconst (pc := 423) (v := iv 0) hx hb dL_refuses_423 rfl ?_
      refine c_callSW (pc := 424) (y := yL_act) (As := [.ref x, .int (iv 3), .int (iv 0), .int (iv ((-1))), .int (iv 0)]) (rest := []) hC hE hP hD hS hl.1 (A_alike_io l ε hst hH 0 ((-1)) 0 (by decide) (by decide) (by decide) (by omega)) m_4_18 m_4_19 m_0_5 m_4_20 hd_yL_act rfl ⟨⟨by decide, by decide⟩, (Nat.le_of_ble_eq_true rfl), (Nat.le_of_ble_eq_true rfl)⟩ (Nat.le_of_ble_eq_true rfl) rfl dL_refuses_424 kxN (fun v w_1 H locs hq hP hD hS => ?_)
      refine W.widen (k := 61) (n := 5688) (Nat.le_of_ble_eq_true rfl) (Nat.le_of_ble_eq_true rfl) ?_
      rw [hq.2] at hP hD
      rw [hq.1]
      dsimp only [Option.toList, List.cons_append, List.nil_append]
      refine lv_bipush (pc := 427) (v := iv (-71)) hx hb dL_refuses_427 (by decide) ?_
      refine r_icmp_ne (pc := 429) (a := (-71)) (b := (-71)) hx hb dL_refuses_429 (tgt := 510) (by decide) ⟨by omega, by omega⟩ ⟨by omega, by omega⟩ (fun c_429 => ?_) (fun c_429 => ?_)
      · exact absurd c_429 (by decide)
      · have c_429_ := c_429
        refine lv_aload_n (pc := 432) hx hb dL_refuses_432 rfl (lv_at hl 0 rfl) ?_
        refine lv_iconst (pc := 433) (v := iv 4) hx hb dL_refuses_433 rfl ?_
        refine lv_iconst (pc := 434) (v := iv 0) hx hb dL_refuses_434 rfl ?_
        refine lv_iload (pc := 435) hx hb dL_refuses_435 (lv_at hl 9 rfl) ?_
        refine lv_iconst (pc := 437) (v := iv 0) hx hb dL_refuses_437 rfl ?_
        refine c_callSW (pc := 438) (y := yL_act) (As := [.ref x, .int (iv 4), .int (iv 0), .int (iv ((-1))), .int (iv 0)]) (rest := []) hC hE hP hD hS hl.1 (A_alikes_io l ε hst hH 0 ((-1)) 0 (by decide) (by decide) (by decide) (by omega)) m_4_18 m_4_19 m_0_5 m_4_20 hd_yL_act rfl ⟨⟨by decide, by decide⟩, (Nat.le_of_ble_eq_true rfl), (Nat.le_of_ble_eq_true rfl)⟩ (Nat.le_of_ble_eq_true rfl) rfl dL_refuses_438 kxN (fun v w_2 H locs hq hP hD hS => ?_)
        refine W.widen (k := 63) (n := 5700) (Nat.le_of_ble_eq_true rfl) (Nat.le_of_ble_eq_true rfl) ?_
        rw [hq.2] at hP hD
        rw [hq.1]
        dsimp only [Option.toList, List.cons_append, List.nil_append]
        refine lv_bipush (pc := 441) (v := iv (-71)) hx hb dL_refuses_441 (by decide) ?_
        refine r_icmp_ne (pc := 443) (a := (-71)) (b := (-71)) hx hb dL_refuses_443 (tgt := 510) (by decide) ⟨by omega, by omega⟩ ⟨by omega, by omega⟩ (fun c_443 => ?_) (fun c_443 => ?_)
        · exact absurd c_443 (by decide)
        · have c_443_ := c_443
          refine lv_aload_n (pc := 446) hx hb dL_refuses_446 rfl (lv_at hl 0 rfl) ?_
          refine lv_iload (pc := 447) hx hb dL_refuses_447 (lv_at hl 12 rfl) ?_
          refine lv_iconst (pc := 449) (v := iv 0) hx hb dL_refuses_449 rfl ?_
          refine lv_iconst (pc := 450) (v := iv 0) hx hb dL_refuses_450 rfl ?_
          refine lv_iconst (pc := 451) (v := iv 5) hx hb dL_refuses_451 rfl ?_
          refine lv_iconst (pc := 452) (v := iv 5) hx hb dL_refuses_452 rfl ?_
          refine c_callSW (pc := 453) (y := yL_lamp) (As := [.ref x, .int (iv ((-1))), .int (iv 0), .int (iv 0), .int (iv 5), .int (iv 5)]) (rest := []) hC hE hP hD hS hl.1 (A_lamp_ia l ε hst hH ((-1)) 0 0 5 5 (by decide) (by decide) (by decide) (by decide) (by decide) h3 (by omega)) m_14_15 m_14_16 m_0_5 m_14_17 hd_yL_lamp rfl ⟨⟨by decide, by decide⟩, (Nat.le_of_ble_eq_true rfl), (Nat.le_of_ble_eq_true rfl)⟩ (Nat.le_of_ble_eq_true rfl) rfl dL_refuses_453 kxN (fun v w_3 H locs hq hP hD hS => ?_)
          refine W.widen (k := 77) (n := 9000) (Nat.le_of_ble_eq_true rfl) (Nat.le_of_ble_eq_true rfl) ?_
          rw [hq.2] at hP hD
          rw [hq.1]
          dsimp only [Option.toList, List.cons_append, List.nil_append]
          refine lv_bipush (pc := 456) (v := iv (-72)) hx hb dL_refuses_456 (by decide) ?_
          refine r_icmp_ne (pc := 458) (a := (-72)) (b := (-72)) hx hb dL_refuses_458 (tgt := 510) (by decide) ⟨by omega, by omega⟩ ⟨by omega, by omega⟩ (fun c_458 => ?_) (fun c_458 => ?_)
          · exact absurd c_458 (by decide)
          · have c_458_ := c_458
            refine lv_aload_n (pc := 461) hx hb dL_refuses_461 rfl (lv_at hl 0 rfl) ?_
            refine lv_iconst (pc := 462) (v := iv 0) hx hb dL_refuses_462 rfl ?_
            refine lv_iload (pc := 463) hx hb dL_refuses_463 (lv_at hl 12 rfl) ?_
            refine lv_iconst (pc := 465) (v := iv 0) hx hb dL_refuses_465 rfl ?_
            refine lv_iconst (pc := 466) (v := iv 5) hx hb dL_refuses_466 rfl ?_
            refine lv_iconst (pc := 467) (v := iv 5) hx hb dL_refuses_467 rfl ?_
            refine c_callSW (pc := 468) (y := yL_lamp) (As := [.ref x, .int (iv 0), .int (iv ((-1))), .int (iv 0), .int (iv 5), .int (iv 5)]) (rest := []) hC hE hP hD hS hl.1 (A_lamp_ia l ε hst hH 0 ((-1)) 0 5 5 (by decide) (by decide) (by decide) (by decide) (by decide) h3 (by omega)) m_14_15 m_14_16 m_0_5 m_14_17 hd_yL_lamp rfl ⟨⟨by decide, by decide⟩, (Nat.le_of_ble_eq_true rfl), (Nat.le_of_ble_eq_true rfl)⟩ (Nat.le_of_ble_eq_true rfl) rfl dL_refuses_468 kxN (fun v w_4 H locs hq hP hD hS => ?_)
            refine W.widen (k := 91) (n := 12300) (Nat.le_of_ble_eq_true rfl) (Nat.le_of_ble_eq_true rfl) ?_
            rw [hq.2] at hP hD
            rw [hq.1]
            dsimp only [Option.toList, List.cons_append, List.nil_append]
            refine lv_bipush (pc := 471) (v := iv (-72)) hx hb dL_refuses_471 (by decide) ?_
            refine r_icmp_ne (pc := 473) (a := (-72)) (b := (-72)) hx hb dL_refuses_473 (tgt := 510) (by decide) ⟨by omega, by omega⟩ ⟨by omega, by omega⟩ (fun c_473 => ?_) (fun c_473 => ?_)
            · exact absurd c_473 (by decide)
            · have c_473_ := c_473
              refine lv_aload_n (pc := 476) hx hb dL_refuses_476 rfl (lv_at hl 0 rfl) ?_
              refine lv_iconst (pc := 477) (v := iv 0) hx hb dL_refuses_477 rfl ?_
              refine lv_iconst (pc := 478) (v := iv 0) hx hb dL_refuses_478 rfl ?_
              refine lv_iconst (pc := 479) (v := iv 0) hx hb dL_refuses_479 rfl ?_
              refine lv_iload (pc := 480) hx hb dL_refuses_480 (lv_at hl 13 rfl) ?_
              refine lv_iconst (pc := 482) (v := iv 5) hx hb dL_refuses_482 rfl ?_
              refine c_callSW (pc := 483) (y := yL_lamp) (As := [.ref x, .int (iv 0), .int (iv 0), .int (iv 0), .int (iv 0), .int (iv 5)]) (rest := []) hC hE hP hD hS hl.1 (A_lamp_ia l ε hst hH 0 0 0 0 5 (by decide) (by decide) (by decide) (by decide) (by decide) h3 (by omega)) m_14_15 m_14_16 m_0_5 m_14_17 hd_yL_lamp rfl ⟨⟨by decide, by decide⟩, (Nat.le_of_ble_eq_true rfl), (Nat.le_of_ble_eq_true rfl)⟩ (Nat.le_of_ble_eq_true rfl) rfl dL_refuses_483 kxN (fun v w_5 H locs hq hP hD hS => ?_)
              refine W.widen (k := 105) (n := 15600) (Nat.le_of_ble_eq_true rfl) (Nat.le_of_ble_eq_true rfl) ?_
              rw [hq.2] at hP hD
              rw [hq.1]
              dsimp only [Option.toList, List.cons_append, List.nil_append]
              refine lv_bipush (pc := 486) (v := iv (-72)) hx hb dL_refuses_486 (by decide) ?_
              refine r_icmp_ne (pc := 488) (a := (-72)) (b := (-72)) hx hb dL_refuses_488 (tgt := 510) (by decide) ⟨by omega, by omega⟩ ⟨by omega, by omega⟩ (fun c_488 => ?_) (fun c_488 => ?_)
              · exact absurd c_488 (by decide)
              · have c_488_ := c_488
                refine lv_aload_n (pc := 491) hx hb dL_refuses_491 rfl (lv_at hl 0 rfl) ?_
                refine lv_iconst (pc := 492) (v := iv 0) hx hb dL_refuses_492 rfl ?_
                refine lv_iconst (pc := 493) (v := iv 0) hx hb dL_refuses_493 rfl ?_
                refine lv_iconst (pc := 494) (v := iv 0) hx hb dL_refuses_494 rfl ?_
                refine lv_iconst (pc := 495) (v := iv 5) hx hb dL_refuses_495 rfl ?_
                refine lv_iload (pc := 496) hx hb dL_refuses_496 (lv_at hl 14 rfl) ?_
                refine c_callSW (pc := 498) (y := yL_lamp) (As := [.ref x, .int (iv 0), .int (iv 0), .int (iv 0), .int (iv 5), .int (iv 0)]) (rest := []) hC hE hP hD hS hl.1 (A_lamp_ia l ε hst hH 0 0 0 5 0 (by decide) (by decide) (by decide) (by decide) (by decide) h3 (by omega)) m_14_15 m_14_16 m_0_5 m_14_17 hd_yL_lamp rfl ⟨⟨by decide, by decide⟩, (Nat.le_of_ble_eq_true rfl), (Nat.le_of_ble_eq_true rfl)⟩ (Nat.le_of_ble_eq_true rfl) rfl dL_refuses_498 kxN (fun v w_6 H locs hq hP hD hS => ?_)
                refine W.widen (k := 119) (n := 18900) (Nat.le_of_ble_eq_true rfl) (Nat.le_of_ble_eq_true rfl) ?_
                rw [hq.2] at hP hD
                rw [hq.1]
                dsimp only [Option.toList, List.cons_append, List.nil_append]
                refine lv_bipush (pc := 501) (v := iv (-72)) hx hb dL_refuses_501 (by decide) ?_
                refine r_icmp_ne (pc := 503) (a := (-72)) (b := (-72)) hx hb dL_refuses_503 (tgt := 510) (by decide) ⟨by omega, by omega⟩ ⟨by omega, by omega⟩ (fun c_503 => ?_) (fun c_503 => ?_)
                · exact absurd c_503 (by decide)
                · have c_503_ := c_503
                  refine lv_iconst (pc := 506) (v := iv 1) hx hb dL_refuses_506 rfl ?_
                  refine lv_goto (pc := 507) (tgt := 511) hx hb dL_refuses_507 (by decide) ?_
                  refine lv_istore (lv' := [(15, .int (iv 1)), (0, .ref x), (1, .int (iv pa)), (2, .int (iv la)), (3, .int (iv ca)), (4, .int (iv (n 3))), (5, .int (iv (clcB G (n 2).toNat))), (6, .int (iv 2147483647)), (7, .int (iv 0)), (8, .int (iv ((-1)))), (9, .int (iv ((-1)))), (10, .int (iv ((-1)))), (11, .int (iv ((-1)))), (12, .int (iv ((-1)))), (13, .int (iv 0)), (14, .int (iv 0))]) (pc := 511) hx hb dL_refuses_511 hl (by decide) rfl (fun ls hl => ?_)
                  refine W.widen (k := 119) (n := 18900) (Nat.le_of_ble_eq_true rfl) (Nat.le_of_ble_eq_true rfl) ?_
                  exact hnx _ _ _ _ _ _ _ _ _ hC hE hQ _ _ _ _ rfl hP hD hS (lv_sub hl [1, 2, 3, 4, 5, 6, 7, 8, 9, 10, 11, 12, 13, 14, 15, 0] rfl)
set_option maxRecDepth 100000 in
set_option maxHeartbeats 8000000 in
theorem sr_3 (l : Launch) (ε : EV) (hst : l.stackTraces = false) {x : Nat} {n : Nat → Int} {G : Nat → Nat → Int} {w : va_W} (hHw : HS ε x n G w) (pa la ca : Int) (hpa : pa = n 1) (hla : la = n 2) (hca : ca = n 4) (h3 : n 3 < 512) (hnx : SEG l ε yL_refuses cL_refuses 16 rm_A_refuses (fun v z => v = some (.int (iv 1)) ∧ z = w) 669 151 21196 [(0, .ref x), (1, .int (iv pa)), (2, .int (iv la)), (3, .int (iv ca)), (4, .int (iv (n 3))), (5, .int (iv (clcB G (n 2).toNat))), (6, .int (iv 2147483647)), (7, .int (iv 0)), (8, .int (iv ((-1)))), (9, .int (iv ((-1)))), (10, .int (iv ((-1)))), (11, .int (iv ((-1)))), (12, .int (iv ((-1)))), (13, .int (iv 0)), (14, .int (iv 0)), (15, .int (iv 1))] (fun z => z = w)) : SEG l ε yL_refuses cL_refuses 16 rm_A_refuses (fun v z => v = some (.int (iv 1)) ∧ z = w) 513 119 18900 [(0, .ref x), (1, .int (iv pa)), (2, .int (iv la)), (3, .int (iv ca)), (4, .int (iv (n 3))), (5, .int (iv (clcB G (n 2).toNat))), (6, .int (iv 2147483647)), (7, .int (iv 0)), (8, .int (iv ((-1)))), (9, .int (iv ((-1)))), (10, .int (iv ((-1)))), (11, .int (iv ((-1)))), (12, .int (iv ((-1)))), (13, .int (iv 0)), (14, .int (iv 0)), (15, .int (iv 1))] (fun z => z = w) := by
  intro p9 e9 s9 m9 a9 bl9 me9 c9 Q9 hC hE hQ H locs ls w9 hH hP hD hS hl
  have hx := hC.1
  have hb := hC.2.1
  have hK := hE.K
  subst hH
  have hH := hHw
  obtain ⟨fo, hob⟩ := hH.ob
  have hI := hH.inv
  have hN := hI.NB
  have hlp := lamp_patt hI
  refine lv_iload_n (pc := 513) hx hb dL_refuses_513 rfl (lv_at hl 2 rfl) ?_
  refine r_if_le (pc := 514) (a := la) hx hb dL_refuses_514 (tgt := 669) (by decide) ⟨by omega, by omega⟩ (fun c_514 => ?_) (fun c_514 => ?_)
  · have c_514_ := c_514
    refine W.widen (k := 151) (n := 21196) (Nat.le_of_ble_eq_true rfl) (Nat.le_of_ble_eq_true rfl) ?_
    exact hnx _ _ _ _ _ _ _ _ _ hC hE hQ _ _ _ _ rfl hP hD hS (lv_sub hl [0, 1, 2, 3, 4, 5, 6, 7, 8, 9, 10, 11, 12, 13, 14, 15] rfl)
  · have c_514_ := c_514
    refine lv_iload (pc := 517) hx hb dL_refuses_517 (lv_at hl 15 rfl) ?_
    refine r_if_eq (pc := 519) (a := 1) hx hb dL_refuses_519 (tgt := 666) (by decide) ⟨by omega, by omega⟩ (fun c_519 => ?_) (fun c_519 => ?_)
    · exact absurd c_519 (by decide)
    · have c_519_ := c_519
      refine lv_aload_n (pc := 522) hx hb dL_refuses_522 rfl (lv_at hl 0 rfl) ?_
      refine lv_iconst (pc := 523) (v := iv 5) hx hb dL_refuses_523 rfl ?_
      refine lv_iconst (pc := 524) (v := iv 0) hx hb dL_refuses_524 rfl ?_
      refine lv_iload (pc := 525) hx hb dL_refuses_525 (lv_at hl 9 rfl) ?_
      refine lv_iconst (pc := 527) (v := iv (-1)) hx hb dL_refuses_527 rfl ?_
      refine c_callSW (pc := 528) (y := yL_act) (As := [.ref x, .int (iv 5), .int (iv 0), .int (iv ((-1))), .int (iv ((-1)))]) (rest := []) hC hE hP hD hS hl.1 (A_change_io l ε hst hH 0 ((-1)) ((-1)) (by decide) (by decide) (by decide) h3 (by omega)) m_4_18 m_4_19 m_0_5 m_4_20 hd_yL_act rfl ⟨⟨by decide, by decide⟩, (Nat.le_of_ble_eq_true rfl), (Nat.le_of_ble_eq_true rfl)⟩ (Nat.le_of_ble_eq_true rfl) rfl dL_refuses_528 kxN (fun v w_1 H locs hq hP hD hS => ?_)
      refine W.widen (k := 127) (n := 20000) (Nat.le_of_ble_eq_true rfl) (Nat.le_of_ble_eq_true rfl) ?_
      rw [hq.2] at hP hD
      rw [hq.1]
      dsimp only [Option.toList, List.cons_append, List.nil_append]
      refine lv_bipush (pc := 531) (v := iv (-71)) hx hb dL_refuses_531 (by decide) ?_
      refine r_icmp_ne (pc := 533) (a := (-71)) (b := (-71)) hx hb dL_refuses_533 (tgt := 666) (by decide) ⟨by omega, by omega⟩ ⟨by omega, by omega⟩ (fun c_533 => ?_) (fun c_533 => ?_)
      · exact absurd c_533 (by decide)
      · have c_533_ := c_533
        refine lv_aload_n (pc := 536) hx hb dL_refuses_536 rfl (lv_at hl 0 rfl) ?_
        refine lv_iconst (pc := 537) (v := iv 5) hx hb dL_refuses_537 rfl ?_
        refine lv_iconst (pc := 538) (v := iv 0) hx hb dL_refuses_538 rfl ?_
        refine lv_iconst (pc := 539) (v := iv 0) hx hb dL_refuses_539 rfl ?_
        refine lv_iload (pc := 540) hx hb dL_refuses_540 (lv_at hl 7 rfl) ?_
        refine lv_iconst (pc := 542) (v := iv 1) hx hb dL_refuses_542 rfl ?_
        refine r_icmp_ne (pc := 543) (a := 0) (b := 1) hx hb dL_refuses_543 (tgt := 551) (by decide) ⟨by omega, by omega⟩ ⟨by omega, by omega⟩ (fun c_543 => ?_) (fun c_543 => ?_)
        · have c_543_ := c_543
          refine lv_iload (pc := 551) hx hb dL_refuses_551 (lv_at hl 8 rfl) ?_
          refine c_callSW (pc := 553) (y := yL_act) (As := [.ref x, .int (iv 5), .int (iv 0), .int (iv 0), .int (iv ((-1)))]) (rest := []) hC hE hP hD hS hl.1 (A_change_ia l ε hst hH 0 0 ((-1)) (by decide) (by decide) (by decide) h3 (by omega)) m_4_18 m_4_19 m_0_5 m_4_20 hd_yL_act rfl ⟨⟨by decide, by decide⟩, (Nat.le_of_ble_eq_true rfl), (Nat.le_of_ble_eq_true rfl)⟩ (Nat.le_of_ble_eq_true rfl) rfl dL_refuses_553 kxN (fun v w_2 H locs hq hP hD hS => ?_)
          refine W.widen (k := 135) (n := 21100) (Nat.le_of_ble_eq_true rfl) (Nat.le_of_ble_eq_true rfl) ?_
          rw [hq.2] at hP hD
          rw [hq.1]
          dsimp only [Option.toList, List.cons_append, List.nil_append]
          refine lv_bipush (pc := 556) (v := iv (-72)) hx hb dL_refuses_556 (by decide) ?_
          refine r_icmp_ne (pc := 558) (a := (-72)) (b := (-72)) hx hb dL_refuses_558 (tgt := 666) (by decide) ⟨by omega, by omega⟩ ⟨by omega, by omega⟩ (fun c_558 => ?_) (fun c_558 => ?_)
          · exact absurd c_558 (by decide)
          · have c_558_ := c_558
            refine lv_aload_n (pc := 561) hx hb dL_refuses_561 rfl (lv_at hl 0 rfl) ?_
            refine lv_bipush (pc := 562) (v := iv 7) hx hb dL_refuses_562 (by decide) ?_
            refine lv_iconst (pc := 564) (v := iv 0) hx hb dL_refuses_564 rfl ?_
            refine lv_iload (pc := 565) hx hb dL_refuses_565 (lv_at hl 7 rfl) ?_
            refine lv_iconst (pc := 567) (v := iv 1) hx hb dL_refuses_567 rfl ?_
            refine r_icmp_ne (pc := 568) (a := 0) (b := 1) hx hb dL_refuses_568 (tgt := 576) (by decide) ⟨by omega, by omega⟩ ⟨by omega, by omega⟩ (fun c_568 => ?_) (fun c_568 => ?_)
            · have c_568_ := c_568
              refine lv_iload (pc := 576) hx hb dL_refuses_576 (lv_at hl 8 rfl) ?_
              refine lv_iconst (pc := 578) (v := iv 0) hx hb dL_refuses_578 rfl ?_
              refine c_callSW (pc := 579) (y := yL_act) (As := [.ref x, .int (iv 7), .int (iv 0), .int (iv ((-1))), .int (iv 0)]) (rest := []) hC hE hP hD hS hl.1 (A_shines_ia l ε hst hH 0 ((-1)) 0 (by decide) (by decide) (by decide) (by omega)) m_4_18 m_4_19 m_0_5 m_4_20 hd_yL_act rfl ⟨⟨by decide, by decide⟩, (Nat.le_of_ble_eq_true rfl), (Nat.le_of_ble_eq_true rfl)⟩ (Nat.le_of_ble_eq_true rfl) rfl dL_refuses_579 kxN (fun v w_3 H locs hq hP hD hS => ?_)
              refine W.widen (k := 137) (n := 21112) (Nat.le_of_ble_eq_true rfl) (Nat.le_of_ble_eq_true rfl) ?_
              rw [hq.2] at hP hD
              rw [hq.1]
              dsimp only [Option.toList, List.cons_append, List.nil_append]
              refine lv_bipush (pc := 582) (v := iv (-72)) hx hb dL_refuses_582 (by decide) ?_
              refine r_icmp_ne (pc := 584) (a := (-72)) (b := (-72)) hx hb dL_refuses_584 (tgt := 666) (by decide) ⟨by omega, by omega⟩ ⟨by omega, by omega⟩ (fun c_584 => ?_) (fun c_584 => ?_)
              · exact absurd c_584 (by decide)
              · have c_584_ := c_584
                refine lv_aload_n (pc := 587) hx hb dL_refuses_587 rfl (lv_at hl 0 rfl) ?_
                refine lv_bipush (pc := 588) (v := iv 8) hx hb dL_refuses_588 (by decide) ?_
                refine lv_iconst (pc := 590) (v := iv 0) hx hb dL_refuses_590 rfl ?_
                refine lv_iload (pc := 591) hx hb dL_refuses_591 (lv_at hl 12 rfl) ?_
                refine lv_iconst (pc := 593) (v := iv 0) hx hb dL_refuses_593 rfl ?_
                refine c_callSW (pc := 594) (y := yL_act) (As := [.ref x, .int (iv 8), .int (iv 0), .int (iv ((-1))), .int (iv 0)]) (rest := []) hC hE hP hD hS hl.1 (A_sector_ia l ε hst hH 0 ((-1)) 0 (by decide) (by decide) (by decide) (by omega)) m_4_18 m_4_19 m_0_5 m_4_20 hd_yL_act rfl ⟨⟨by decide, by decide⟩, (Nat.le_of_ble_eq_true rfl), (Nat.le_of_ble_eq_true rfl)⟩ (Nat.le_of_ble_eq_true rfl) rfl dL_refuses_594 kxN (fun v w_4 H locs hq hP hD hS => ?_)
                refine W.widen (k := 140) (n := 21130) (Nat.le_of_ble_eq_true rfl) (Nat.le_of_ble_eq_true rfl) ?_
                rw [hq.2] at hP hD
                rw [hq.1]
                dsimp only [Option.toList, List.cons_append, List.nil_append]
                refine lv_bipush (pc := 597) (v := iv (-72)) hx hb dL_refuses_597 (by decide) ?_
                refine r_icmp_ne (pc := 599) (a := (-72)) (b := (-72)) hx hb dL_refuses_599 (tgt := 666) (by decide) ⟨by omega, by omega⟩ ⟨by omega, by omega⟩ (fun c_599 => ?_) (fun c_599 => ?_)
                · exact absurd c_599 (by decide)
                · have c_599_ := c_599
                  refine lv_aload_n (pc := 602) hx hb dL_refuses_602 rfl (lv_at hl 0 rfl) ?_
                  refine lv_bipush (pc := 603) (v := iv 8) hx hb dL_refuses_603 (by decide) ?_
                  refine lv_iconst (pc := 605) (v := iv 0) hx hb dL_refuses_605 rfl ?_
                  refine lv_iconst (pc := 606) (v := iv 0) hx hb dL_refuses_606 rfl ?_
                  refine lv_iload (pc := 607) hx hb dL_refuses_607 (lv_at hl 12 rfl) ?_
                  refine c_callSW (pc := 609) (y := yL_act) (As := [.ref x, .int (iv 8), .int (iv 0), .int (iv 0), .int (iv ((-1)))]) (rest := []) hC hE hP hD hS hl.1 (A_sector_ia l ε hst hH 0 0 ((-1)) (by decide) (by decide) (by decide) (by omega)) m_4_18 m_4_19 m_0_5 m_4_20 hd_yL_act rfl ⟨⟨by decide, by decide⟩, (Nat.le_of_ble_eq_true rfl), (Nat.le_of_ble_eq_true rfl)⟩ (Nat.le_of_ble_eq_true rfl) rfl dL_refuses_609 kxN (fun v w_5 H locs hq hP hD hS => ?_)
                  refine W.widen (k := 143) (n := 21148) (Nat.le_of_ble_eq_true rfl) (Nat.le_of_ble_eq_true rfl) ?_
                  rw [hq.2] at hP hD
                  rw [hq.1]
                  dsimp only [Option.toList, List.cons_append, List.nil_append]
                  refine lv_bipush (pc := 612) (v := iv (-72)) hx hb dL_refuses_612 (by decide) ?_
                  refine r_icmp_ne (pc := 614) (a := (-72)) (b := (-72)) hx hb dL_refuses_614 (tgt := 666) (by decide) ⟨by omega, by omega⟩ ⟨by omega, by omega⟩ (fun c_614 => ?_) (fun c_614 => ?_)
                  · exact absurd c_614 (by decide)
                  · have c_614_ := c_614
                    refine lv_aload_n (pc := 617) hx hb dL_refuses_617 rfl (lv_at hl 0 rfl) ?_
                    refine lv_bipush (pc := 618) (v := iv 9) hx hb dL_refuses_618 (by decide) ?_
                    refine lv_iconst (pc := 620) (v := iv 0) hx hb dL_refuses_620 rfl ?_
                    refine lv_iload (pc := 621) hx hb dL_refuses_621 (lv_at hl 12 rfl) ?_
                    refine lv_iconst (pc := 623) (v := iv 0) hx hb dL_refuses_623 rfl ?_
                    refine c_callSW (pc := 624) (y := yL_act) (As := [.ref x, .int (iv 9), .int (iv 0), .int (iv ((-1))), .int (iv 0)]) (rest := []) hC hE hP hD hS hl.1 (A_isSeen_ia l ε hst hH 0 ((-1)) 0 (by decide) (by decide) (by decide) (by omega)) m_4_18 m_4_19 m_0_5 m_4_20 hd_yL_act rfl ⟨⟨by decide, by decide⟩, (Nat.le_of_ble_eq_true rfl), (Nat.le_of_ble_eq_true rfl)⟩ (Nat.le_of_ble_eq_true rfl) rfl dL_refuses_624 kxN (fun v w_6 H locs hq hP hD hS => ?_)
                    refine W.widen (k := 146) (n := 21166) (Nat.le_of_ble_eq_true rfl) (Nat.le_of_ble_eq_true rfl) ?_
                    rw [hq.2] at hP hD
                    rw [hq.1]
                    dsimp only [Option.toList, List.cons_append, List.nil_append]
                    refine lv_bipush (pc := 627) (v := iv (-72)) hx hb dL_refuses_627 (by decide) ?_
                    refine r_icmp_ne (pc := 629) (a := (-72)) (b := (-72)) hx hb dL_refuses_629 (tgt := 666) (by decide) ⟨by omega, by omega⟩ ⟨by omega, by omega⟩ (fun c_629 => ?_) (fun c_629 => ?_)
                    · exact absurd c_629 (by decide)
                    · have c_629_ := c_629
                      refine lv_aload_n (pc := 632) hx hb dL_refuses_632 rfl (lv_at hl 0 rfl) ?_
                      refine lv_bipush (pc := 633) (v := iv 9) hx hb dL_refuses_633 (by decide) ?_
                      refine lv_iconst (pc := 635) (v := iv 0) hx hb dL_refuses_635 rfl ?_
                      refine lv_iconst (pc := 636) (v := iv 0) hx hb dL_refuses_636 rfl ?_
                      refine lv_iload (pc := 637) hx hb dL_refuses_637 (lv_at hl 12 rfl) ?_
                      refine c_callSW (pc := 639) (y := yL_act) (As := [.ref x, .int (iv 9), .int (iv 0), .int (iv 0), .int (iv ((-1)))]) (rest := []) hC hE hP hD hS hl.1 (A_isSeen_ia l ε hst hH 0 0 ((-1)) (by decide) (by decide) (by decide) (by omega)) m_4_18 m_4_19 m_0_5 m_4_20 hd_yL_act rfl ⟨⟨by decide, by decide⟩, (Nat.le_of_ble_eq_true rfl), (Nat.le_of_ble_eq_true rfl)⟩ (Nat.le_of_ble_eq_true rfl) rfl dL_refuses_639 kxN (fun v w_7 H locs hq hP hD hS => ?_)
                      refine W.widen (k := 149) (n := 21184) (Nat.le_of_ble_eq_true rfl) (Nat.le_of_ble_eq_true rfl) ?_
                      rw [hq.2] at hP hD
                      rw [hq.1]
                      dsimp only [Option.toList, List.cons_append, List.nil_append]
                      refine lv_bipush (pc := 642) (v := iv (-72)) hx hb dL_refuses_642 (by decide) ?_
                      refine r_icmp_ne (pc := 644) (a := (-72)) (b := (-72)) hx hb dL_refuses_644 (tgt := 666) (by decide) ⟨by omega, by omega⟩ ⟨by omega, by omega⟩ (fun c_644 => ?_) (fun c_644 => ?_)
                      · exact absurd c_644 (by decide)
                      · have c_644_ := c_644
                        refine lv_aload_n (pc := 647) hx hb dL_refuses_647 rfl (lv_at hl 0 rfl) ?_
                        refine lv_bipush (pc := 648) (v := iv 10) hx hb dL_refuses_648 (by decide) ?_
                        refine lv_iconst (pc := 650) (v := iv 0) hx hb dL_refuses_650 rfl ?_
                        refine lv_iload (pc := 651) hx hb dL_refuses_651 (lv_at hl 10 rfl) ?_
                        refine lv_iconst (pc := 653) (v := iv 0) hx hb dL_refuses_653 rfl ?_
                        refine c_callSW (pc := 654) (y := yL_act) (As := [.ref x, .int (iv 10), .int (iv 0), .int (iv ((-1))), .int (iv 0)]) (rest := []) hC hE hP hD hS hl.1 (A_common_io l ε hst hH 0 ((-1)) 0 (by decide) (by decide) (by decide) (by omega)) m_4_18 m_4_19 m_0_5 m_4_20 hd_yL_act rfl ⟨⟨by decide, by decide⟩, (Nat.le_of_ble_eq_true rfl), (Nat.le_of_ble_eq_true rfl)⟩ (Nat.le_of_ble_eq_true rfl) rfl dL_refuses_654 kxN (fun v w_8 H locs hq hP hD hS => ?_)
                        refine W.widen (k := 151) (n := 21196) (Nat.le_of_ble_eq_true rfl) (Nat.le_of_ble_eq_true rfl) ?_
                        rw [hq.2] at hP hD
                        rw [hq.1]
                        dsimp only [Option.toList, List.cons_append, List.nil_append]
                        refine lv_bipush (pc := 657) (v := iv (-71)) hx hb dL_refuses_657 (by decide) ?_
                        refine r_icmp_ne (pc := 659) (a := (-71)) (b := (-71)) hx hb dL_refuses_659 (tgt := 666) (by decide) ⟨by omega, by omega⟩ ⟨by omega, by omega⟩ (fun c_659 => ?_) (fun c_659 => ?_)
                        · exact absurd c_659 (by decide)
                        · have c_659_ := c_659
                          refine lv_iconst (pc := 662) (v := iv 1) hx hb dL_refuses_662 rfl ?_
                          refine lv_goto (pc := 663) (tgt := 667) hx hb dL_refuses_663 (by decide) ?_
                          refine lv_istore (lv' := [(15, .int (iv 1)), (0, .ref x), (1, .int (iv pa)), (2, .int (iv la)), (3, .int (iv ca)), (4, .int (iv (n 3))), (5, .int (iv (clcB G (n 2).toNat))), (6, .int (iv 2147483647)), (7, .int (iv 0)), (8, .int (iv ((-1)))), (9, .int (iv ((-1)))), (10, .int (iv ((-1)))), (11, .int (iv ((-1)))), (12, .int (iv ((-1)))), (13, .int (iv 0)), (14, .int (iv 0))]) (pc := 667) hx hb dL_refuses_667 hl (by decide) rfl (fun ls hl => ?_)
                          refine W.widen (k := 151) (n := 21196) (Nat.le_of_ble_eq_true rfl) (Nat.le_of_ble_eq_true rfl) ?_
                          exact hnx _ _ _ _ _ _ _ _ _ hC hE hQ _ _ _ _ rfl hP hD hS (lv_sub hl [1, 2, 3, 4, 5, 6, 7, 8, 9, 10, 11, 12, 13, 14, 15, 0] rfl)
            · exact absurd c_568 (by decide)
        · exact absurd c_543 (by decide)
set_option maxRecDepth 100000 in
set_option maxHeartbeats 8000000 in
theorem sr_4 (l : Launch) (ε : EV) (hst : l.stackTraces = false) {x : Nat} {n : Nat → Int} {G : Nat → Nat → Int} {w : va_W} (hHw : HS ε x n G w) (pa la ca : Int) (hpa : pa = n 1) (hla : la = n 2) (hca : ca = n 4) (h3 : n 3 < 512) (hnx : SEG l ε yL_refuses cL_refuses 16 rm_A_refuses (fun v z => v = some (.int (iv 1)) ∧ z = w) 751 162 21264 [(0, .ref x), (1, .int (iv pa)), (2, .int (iv la)), (3, .int (iv ca)), (4, .int (iv (n 3))), (5, .int (iv (clcB G (n 2).toNat))), (6, .int (iv 2147483647)), (7, .int (iv 0)), (8, .int (iv ((-1)))), (9, .int (iv ((-1)))), (10, .int (iv ((-1)))), (11, .int (iv ((-1)))), (12, .int (iv ((-1)))), (13, .int (iv 0)), (14, .int (iv 0)), (15, .int (iv 1))] (fun z => z = w)) : SEG l ε yL_refuses cL_refuses 16 rm_A_refuses (fun v z => v = some (.int (iv 1)) ∧ z = w) 669 151 21196 [(0, .ref x), (1, .int (iv pa)), (2, .int (iv la)), (3, .int (iv ca)), (4, .int (iv (n 3))), (5, .int (iv (clcB G (n 2).toNat))), (6, .int (iv 2147483647)), (7, .int (iv 0)), (8, .int (iv ((-1)))), (9, .int (iv ((-1)))), (10, .int (iv ((-1)))), (11, .int (iv ((-1)))), (12, .int (iv ((-1)))), (13, .int (iv 0)), (14, .int (iv 0)), (15, .int (iv 1))] (fun z => z = w) := by
  intro p9 e9 s9 m9 a9 bl9 me9 c9 Q9 hC hE hQ H locs ls w9 hH hP hD hS hl
  have hx := hC.1
  have hb := hC.2.1
  have hK := hE.K
  subst hH
  have hH := hHw
  obtain ⟨fo, hob⟩ := hH.ob
  have hI := hH.inv
  have hN := hI.NB
  have hlp := lamp_patt hI
  refine lv_iload_n (pc := 669) hx hb dL_refuses_669 rfl (lv_at hl 3 rfl) ?_
  refine r_if_le (pc := 670) (a := ca) hx hb dL_refuses_670 (tgt := 751) (by decide) ⟨by omega, by omega⟩ (fun c_670 => ?_) (fun c_670 => ?_)
  · have c_670_ := c_670
    refine W.widen (k := 162) (n := 21264) (Nat.le_of_ble_eq_true rfl) (Nat.le_of_ble_eq_true rfl) ?_
    exact hnx _ _ _ _ _ _ _ _ _ hC hE hQ _ _ _ _ rfl hP hD hS (lv_sub hl [0, 1, 2, 3, 4, 5, 6, 7, 8, 9, 10, 11, 12, 13, 14, 15] rfl)
  · have c_670_ := c_670
    refine lv_iload (pc := 673) hx hb dL_refuses_673 (lv_at hl 15 rfl) ?_
    refine r_if_eq (pc := 675) (a := 1) hx hb dL_refuses_675 (tgt := 748) (by decide) ⟨by omega, by omega⟩ (fun c_675 => ?_) (fun c_675 => ?_)
    · exact absurd c_675 (by decide)
    · have c_675_ := c_675
      refine lv_aload_n (pc := 678) hx hb dL_refuses_678 rfl (lv_at hl 0 rfl) ?_
      refine lv_bipush (pc := 679) (v := iv 12) hx hb dL_refuses_679 (by decide) ?_
      refine lv_iconst (pc := 681) (v := iv 0) hx hb dL_refuses_681 rfl ?_
      refine lv_iload (pc := 682) hx hb dL_refuses_682 (lv_at hl 7 rfl) ?_
      refine r_if_ne (pc := 684) (a := 0) hx hb dL_refuses_684 (tgt := 691) (by decide) ⟨by omega, by omega⟩ (fun c_684 => ?_) (fun c_684 => ?_)
      · exact absurd c_684 (by decide)
      · have c_684_ := c_684
        refine lv_iconst (pc := 687) (v := iv 0) hx hb dL_refuses_687 rfl ?_
        refine lv_goto (pc := 688) (tgt := 704) hx hb dL_refuses_688 (by decide) ?_
        refine lv_iconst (pc := 704) (v := iv 0) hx hb dL_refuses_704 rfl ?_
        refine c_callSW (pc := 705) (y := yL_act) (As := [.ref x, .int (iv 12), .int (iv 0), .int (iv 0), .int (iv 0)]) (rest := []) hC hE hP hD hS hl.1 (A_correct_ia l ε hst hH 0 0 0 (by decide) (by decide) (by decide) (by omega)) m_4_18 m_4_19 m_0_5 m_4_20 hd_yL_act rfl ⟨⟨by decide, by decide⟩, (Nat.le_of_ble_eq_true rfl), (Nat.le_of_ble_eq_true rfl)⟩ (Nat.le_of_ble_eq_true rfl) rfl dL_refuses_705 kxN (fun v w_1 H locs hq hP hD hS => ?_)
        refine W.widen (k := 154) (n := 21216) (Nat.le_of_ble_eq_true rfl) (Nat.le_of_ble_eq_true rfl) ?_
        rw [hq.2] at hP hD
        rw [hq.1]
        dsimp only [Option.toList, List.cons_append, List.nil_append]
        refine lv_bipush (pc := 708) (v := iv (-72)) hx hb dL_refuses_708 (by decide) ?_
        refine r_icmp_ne (pc := 710) (a := (-72)) (b := (-72)) hx hb dL_refuses_710 (tgt := 748) (by decide) ⟨by omega, by omega⟩ ⟨by omega, by omega⟩ (fun c_710 => ?_) (fun c_710 => ?_)
        · exact absurd c_710 (by decide)
        · have c_710_ := c_710
          refine lv_aload_n (pc := 713) hx hb dL_refuses_713 rfl (lv_at hl 0 rfl) ?_
          refine lv_bipush (pc := 714) (v := iv 14) hx hb dL_refuses_714 (by decide) ?_
          refine lv_iconst (pc := 716) (v := iv 0) hx hb dL_refuses_716 rfl ?_
          refine lv_iload (pc := 717) hx hb dL_refuses_717 (lv_at hl 10 rfl) ?_
          refine lv_iconst (pc := 719) (v := iv 0) hx hb dL_refuses_719 rfl ?_
          refine c_callSW (pc := 720) (y := yL_act) (As := [.ref x, .int (iv 14), .int (iv 0), .int (iv ((-1))), .int (iv 0)]) (rest := []) hC hE hP hD hS hl.1 (A_shown_io l ε hst hH 0 ((-1)) 0 (by decide) (by decide) (by decide) (by omega)) m_4_18 m_4_19 m_0_5 m_4_20 hd_yL_act rfl ⟨⟨by decide, by decide⟩, (Nat.le_of_ble_eq_true rfl), (Nat.le_of_ble_eq_true rfl)⟩ (Nat.le_of_ble_eq_true rfl) rfl dL_refuses_720 kxN (fun v w_2 H locs hq hP hD hS => ?_)
          refine W.widen (k := 156) (n := 21228) (Nat.le_of_ble_eq_true rfl) (Nat.le_of_ble_eq_true rfl) ?_
          rw [hq.2] at hP hD
          rw [hq.1]
          dsimp only [Option.toList, List.cons_append, List.nil_append]
          refine lv_bipush (pc := 723) (v := iv (-71)) hx hb dL_refuses_723 (by decide) ?_
          refine r_icmp_ne (pc := 725) (a := (-71)) (b := (-71)) hx hb dL_refuses_725 (tgt := 748) (by decide) ⟨by omega, by omega⟩ ⟨by omega, by omega⟩ (fun c_725 => ?_) (fun c_725 => ?_)
          · exact absurd c_725 (by decide)
          · have c_725_ := c_725
            refine lv_aload_n (pc := 728) hx hb dL_refuses_728 rfl (lv_at hl 0 rfl) ?_
            refine lv_iconst (pc := 729) (v := iv 0) hx hb dL_refuses_729 rfl ?_
            refine lv_iconst (pc := 730) (v := iv (-1)) hx hb dL_refuses_730 rfl ?_
            refine lv_iconst (pc := 731) (v := iv 0) hx hb dL_refuses_731 rfl ?_
            refine lv_iload (pc := 732) hx hb dL_refuses_732 (lv_at hl 10 rfl) ?_
            refine lv_iconst (pc := 734) (v := iv 0) hx hb dL_refuses_734 rfl ?_
            refine lv_iconst (pc := 735) (v := iv 1) hx hb dL_refuses_735 rfl ?_
            refine c_callSW (pc := 736) (y := yL_taken) (As := [.ref x, .int (iv 0), .int (iv ((-1))), .int (iv 0), .int (iv ((-1))), .int (iv 0), .int (iv 1)]) (rest := []) hC hE hP hD hS hl.1 (A_taken_io l ε hst hH 0 ((-1)) 0 ((-1)) 0 1 (by decide) (by decide) (by decide) (by decide) (by decide) (by decide) (by omega)) m_15_12 m_15_13 m_0_5 m_15_14 hd_yL_taken rfl ⟨⟨by decide, by decide⟩, (Nat.le_of_ble_eq_true rfl), (Nat.le_of_ble_eq_true rfl)⟩ (Nat.le_of_ble_eq_true rfl) rfl dL_refuses_736 kxN (fun v w_3 H locs hq hP hD hS => ?_)
            refine W.widen (k := 162) (n := 21264) (Nat.le_of_ble_eq_true rfl) (Nat.le_of_ble_eq_true rfl) ?_
            rw [hq.2] at hP hD
            rw [hq.1]
            dsimp only [Option.toList, List.cons_append, List.nil_append]
            refine lv_bipush (pc := 739) (v := iv (-71)) hx hb dL_refuses_739 (by decide) ?_
            refine r_icmp_ne (pc := 741) (a := (-71)) (b := (-71)) hx hb dL_refuses_741 (tgt := 748) (by decide) ⟨by omega, by omega⟩ ⟨by omega, by omega⟩ (fun c_741 => ?_) (fun c_741 => ?_)
            · exact absurd c_741 (by decide)
            · have c_741_ := c_741
              refine lv_iconst (pc := 744) (v := iv 1) hx hb dL_refuses_744 rfl ?_
              refine lv_goto (pc := 745) (tgt := 749) hx hb dL_refuses_745 (by decide) ?_
              refine lv_istore (lv' := [(15, .int (iv 1)), (0, .ref x), (1, .int (iv pa)), (2, .int (iv la)), (3, .int (iv ca)), (4, .int (iv (n 3))), (5, .int (iv (clcB G (n 2).toNat))), (6, .int (iv 2147483647)), (7, .int (iv 0)), (8, .int (iv ((-1)))), (9, .int (iv ((-1)))), (10, .int (iv ((-1)))), (11, .int (iv ((-1)))), (12, .int (iv ((-1)))), (13, .int (iv 0)), (14, .int (iv 0))]) (pc := 749) hx hb dL_refuses_749 hl (by decide) rfl (fun ls hl => ?_)
              refine W.widen (k := 162) (n := 21264) (Nat.le_of_ble_eq_true rfl) (Nat.le_of_ble_eq_true rfl) ?_
              exact hnx _ _ _ _ _ _ _ _ _ hC hE hQ _ _ _ _ rfl hP hD hS (lv_sub hl [1, 2, 3, 4, 5, 6, 7, 8, 9, 10, 11, 12, 13, 14, 15, 0] rfl)
set_option maxRecDepth 100000 in
set_option maxHeartbeats 8000000 in
theorem sr_5 (l : Launch) (ε : EV) (hst : l.stackTraces = false) {x : Nat} {n : Nat → Int} {G : Nat → Nat → Int} {w : va_W} (hHw : HS ε x n G w) (pa la ca : Int) (hpa : pa = n 1) (hla : la = n 2) (hca : ca = n 4) (h3 : n 3 < 512) (hnx : SEG l ε yL_refuses cL_refuses 16 rm_A_refuses (fun v z => v = some (.int (iv 1)) ∧ z = w) 867 186 21408 [(0, .ref x), (1, .int (iv pa)), (2, .int (iv la)), (3, .int (iv ca)), (4, .int (iv (n 3))), (5, .int (iv (clcB G (n 2).toNat))), (6, .int (iv 2147483647)), (7, .int (iv 0)), (8, .int (iv ((-1)))), (9, .int (iv ((-1)))), (10, .int (iv ((-1)))), (11, .int (iv ((-1)))), (12, .int (iv ((-1)))), (13, .int (iv 0)), (14, .int (iv 0)), (15, .int (iv 1))] (fun z => z = w)) : SEG l ε yL_refuses cL_refuses 16 rm_A_refuses (fun v z => v = some (.int (iv 1)) ∧ z = w) 751 162 21264 [(0, .ref x), (1, .int (iv pa)), (2, .int (iv la)), (3, .int (iv ca)), (4, .int (iv (n 3))), (5, .int (iv (clcB G (n 2).toNat))), (6, .int (iv 2147483647)), (7, .int (iv 0)), (8, .int (iv ((-1)))), (9, .int (iv ((-1)))), (10, .int (iv ((-1)))), (11, .int (iv ((-1)))), (12, .int (iv ((-1)))), (13, .int (iv 0)), (14, .int (iv 0)), (15, .int (iv 1))] (fun z => z = w) := by
  intro p9 e9 s9 m9 a9 bl9 me9 c9 Q9 hC hE hQ H locs ls w9 hH hP hD hS hl
  have hx := hC.1
  have hb := hC.2.1
  have hK := hE.K
  subst hH
  have hH := hHw
  obtain ⟨fo, hob⟩ := hH.ob
  have hI := hH.inv
  have hN := hI.NB
  have hlp := lamp_patt hI
  refine lv_iload_n (pc := 751) hx hb dL_refuses_751 rfl (lv_at hl 3 rfl) ?_
  refine r_if_le (pc := 752) (a := ca) hx hb dL_refuses_752 (tgt := 867) (by decide) ⟨by omega, by omega⟩ (fun c_752 => ?_) (fun c_752 => ?_)
  · have c_752_ := c_752
    refine W.widen (k := 186) (n := 21408) (Nat.le_of_ble_eq_true rfl) (Nat.le_of_ble_eq_true rfl) ?_
    exact hnx _ _ _ _ _ _ _ _ _ hC hE hQ _ _ _ _ rfl hP hD hS (lv_sub hl [0, 1, 2, 3, 4, 5, 6, 7, 8, 9, 10, 11, 12, 13, 14, 15] rfl)
  · have c_752_ := c_752
    refine lv_iload_n (pc := 755) hx hb dL_refuses_755 rfl (lv_at hl 2 rfl) ?_
    refine r_if_le (pc := 756) (a := la) hx hb dL_refuses_756 (tgt := 867) (by decide) ⟨by omega, by omega⟩ (fun c_756 => ?_) (fun c_756 => ?_)
    · have c_756_ := c_756
      refine W.widen (k := 186) (n := 21408) (Nat.le_of_ble_eq_true rfl) (Nat.le_of_ble_eq_true rfl) ?_
      exact hnx _ _ _ _ _ _ _ _ _ hC hE hQ _ _ _ _ rfl hP hD hS (lv_sub hl [0, 1, 2, 3, 4, 5, 6, 7, 8, 9, 10, 11, 12, 13, 14, 15] rfl)
    · have c_756_ := c_756
      refine lv_iload (pc := 759) hx hb dL_refuses_759 (lv_at hl 15 rfl) ?_
      refine r_if_eq (pc := 761) (a := 1) hx hb dL_refuses_761 (tgt := 864) (by decide) ⟨by omega, by omega⟩ (fun c_761 => ?_) (fun c_761 => ?_)
      · exact absurd c_761 (by decide)
      · have c_761_ := c_761
        refine lv_aload_n (pc := 764) hx hb dL_refuses_764 rfl (lv_at hl 0 rfl) ?_
        refine lv_iconst (pc := 765) (v := iv 0) hx hb dL_refuses_765 rfl ?_
        refine lv_iload (pc := 766) hx hb dL_refuses_766 (lv_at hl 12 rfl) ?_
        refine lv_iconst (pc := 768) (v := iv 0) hx hb dL_refuses_768 rfl ?_
        refine lv_iconst (pc := 769) (v := iv 0) hx hb dL_refuses_769 rfl ?_
        refine lv_iconst (pc := 770) (v := iv 0) hx hb dL_refuses_770 rfl ?_
        refine lv_iconst (pc := 771) (v := iv 1) hx hb dL_refuses_771 rfl ?_
        refine c_callSW (pc := 772) (y := yL_taken) (As := [.ref x, .int (iv 0), .int (iv ((-1))), .int (iv 0), .int (iv 0), .int (iv 0), .int (iv 1)]) (rest := []) hC hE hP hD hS hl.1 (A_taken_ia l ε hst hH 0 ((-1)) 0 0 0 1 (by decide) (by decide) (by decide) (by decide) (by decide) (by decide) (by omega)) m_15_12 m_15_13 m_0_5 m_15_14 hd_yL_taken rfl ⟨⟨by decide, by decide⟩, (Nat.le_of_ble_eq_true rfl), (Nat.le_of_ble_eq_true rfl)⟩ (Nat.le_of_ble_eq_true rfl) rfl dL_refuses_772 kxN (fun v w_1 H locs hq hP hD hS => ?_)
        refine W.widen (k := 168) (n := 21300) (Nat.le_of_ble_eq_true rfl) (Nat.le_of_ble_eq_true rfl) ?_
        rw [hq.2] at hP hD
        rw [hq.1]
        dsimp only [Option.toList, List.cons_append, List.nil_append]
        refine lv_bipush (pc := 775) (v := iv (-72)) hx hb dL_refuses_775 (by decide) ?_
        refine r_icmp_ne (pc := 777) (a := (-72)) (b := (-72)) hx hb dL_refuses_777 (tgt := 864) (by decide) ⟨by omega, by omega⟩ ⟨by omega, by omega⟩ (fun c_777 => ?_) (fun c_777 => ?_)
        · exact absurd c_777 (by decide)
        · have c_777_ := c_777
          refine lv_aload_n (pc := 780) hx hb dL_refuses_780 rfl (lv_at hl 0 rfl) ?_
          refine lv_iconst (pc := 781) (v := iv 0) hx hb dL_refuses_781 rfl ?_
          refine lv_iconst (pc := 782) (v := iv 0) hx hb dL_refuses_782 rfl ?_
          refine lv_iload (pc := 783) hx hb dL_refuses_783 (lv_at hl 12 rfl) ?_
          refine lv_iconst (pc := 785) (v := iv 0) hx hb dL_refuses_785 rfl ?_
          refine lv_iconst (pc := 786) (v := iv 0) hx hb dL_refuses_786 rfl ?_
          refine lv_iconst (pc := 787) (v := iv 1) hx hb dL_refuses_787 rfl ?_
          refine c_callSW (pc := 788) (y := yL_taken) (As := [.ref x, .int (iv 0), .int (iv 0), .int (iv ((-1))), .int (iv 0), .int (iv 0), .int (iv 1)]) (rest := []) hC hE hP hD hS hl.1 (A_taken_ia l ε hst hH 0 0 ((-1)) 0 0 1 (by decide) (by decide) (by decide) (by decide) (by decide) (by decide) (by omega)) m_15_12 m_15_13 m_0_5 m_15_14 hd_yL_taken rfl ⟨⟨by decide, by decide⟩, (Nat.le_of_ble_eq_true rfl), (Nat.le_of_ble_eq_true rfl)⟩ (Nat.le_of_ble_eq_true rfl) rfl dL_refuses_788 kxN (fun v w_2 H locs hq hP hD hS => ?_)
          refine W.widen (k := 174) (n := 21336) (Nat.le_of_ble_eq_true rfl) (Nat.le_of_ble_eq_true rfl) ?_
          rw [hq.2] at hP hD
          rw [hq.1]
          dsimp only [Option.toList, List.cons_append, List.nil_append]
          refine lv_bipush (pc := 791) (v := iv (-72)) hx hb dL_refuses_791 (by decide) ?_
          refine r_icmp_ne (pc := 793) (a := (-72)) (b := (-72)) hx hb dL_refuses_793 (tgt := 864) (by decide) ⟨by omega, by omega⟩ ⟨by omega, by omega⟩ (fun c_793 => ?_) (fun c_793 => ?_)
          · exact absurd c_793 (by decide)
          · have c_793_ := c_793
            refine lv_aload_n (pc := 796) hx hb dL_refuses_796 rfl (lv_at hl 0 rfl) ?_
            refine lv_iconst (pc := 797) (v := iv 0) hx hb dL_refuses_797 rfl ?_
            refine lv_iconst (pc := 798) (v := iv 0) hx hb dL_refuses_798 rfl ?_
            refine lv_iconst (pc := 799) (v := iv 0) hx hb dL_refuses_799 rfl ?_
            refine lv_iconst (pc := 800) (v := iv 0) hx hb dL_refuses_800 rfl ?_
            refine lv_iload (pc := 801) hx hb dL_refuses_801 (lv_at hl 7 rfl) ?_
            refine lv_iconst (pc := 803) (v := iv 1) hx hb dL_refuses_803 rfl ?_
            refine r_icmp_ne (pc := 804) (a := 0) (b := 1) hx hb dL_refuses_804 (tgt := 813) (by decide) ⟨by omega, by omega⟩ ⟨by omega, by omega⟩ (fun c_804 => ?_) (fun c_804 => ?_)
            · have c_804_ := c_804
              refine lv_iload (pc := 813) hx hb dL_refuses_813 (lv_at hl 8 rfl) ?_
              refine lv_iconst (pc := 815) (v := iv 1) hx hb dL_refuses_815 rfl ?_
              refine c_callSW (pc := 816) (y := yL_taken) (As := [.ref x, .int (iv 0), .int (iv 0), .int (iv 0), .int (iv 0), .int (iv ((-1))), .int (iv 1)]) (rest := []) hC hE hP hD hS hl.1 (A_taken_ia l ε hst hH 0 0 0 0 ((-1)) 1 (by decide) (by decide) (by decide) (by decide) (by decide) (by decide) (by omega)) m_15_12 m_15_13 m_0_5 m_15_14 hd_yL_taken rfl ⟨⟨by decide, by decide⟩, (Nat.le_of_ble_eq_true rfl), (Nat.le_of_ble_eq_true rfl)⟩ (Nat.le_of_ble_eq_true rfl) rfl dL_refuses_816 kxN (fun v w_3 H locs hq hP hD hS => ?_)
              refine W.widen (k := 180) (n := 21372) (Nat.le_of_ble_eq_true rfl) (Nat.le_of_ble_eq_true rfl) ?_
              rw [hq.2] at hP hD
              rw [hq.1]
              dsimp only [Option.toList, List.cons_append, List.nil_append]
              refine lv_bipush (pc := 819) (v := iv (-72)) hx hb dL_refuses_819 (by decide) ?_
              refine r_icmp_ne (pc := 821) (a := (-72)) (b := (-72)) hx hb dL_refuses_821 (tgt := 864) (by decide) ⟨by omega, by omega⟩ ⟨by omega, by omega⟩ (fun c_821 => ?_) (fun c_821 => ?_)
              · exact absurd c_821 (by decide)
              · have c_821_ := c_821
                refine lv_aload_n (pc := 824) hx hb dL_refuses_824 rfl (lv_at hl 0 rfl) ?_
                refine lv_iconst (pc := 825) (v := iv 0) hx hb dL_refuses_825 rfl ?_
                refine lv_iconst (pc := 826) (v := iv 0) hx hb dL_refuses_826 rfl ?_
                refine lv_iconst (pc := 827) (v := iv 0) hx hb dL_refuses_827 rfl ?_
                refine lv_iconst (pc := 828) (v := iv 0) hx hb dL_refuses_828 rfl ?_
                refine lv_iconst (pc := 829) (v := iv 0) hx hb dL_refuses_829 rfl ?_
                refine lv_iload (pc := 830) hx hb dL_refuses_830 (lv_at hl 7 rfl) ?_
                refine r_if_ne (pc := 832) (a := 0) hx hb dL_refuses_832 (tgt := 839) (by decide) ⟨by omega, by omega⟩ (fun c_832 => ?_) (fun c_832 => ?_)
                · exact absurd c_832 (by decide)
                · have c_832_ := c_832
                  refine lv_iconst (pc := 835) (v := iv 0) hx hb dL_refuses_835 rfl ?_
                  refine lv_goto (pc := 836) (tgt := 852) hx hb dL_refuses_836 (by decide) ?_
                  refine c_callSW (pc := 852) (y := yL_taken) (As := [.ref x, .int (iv 0), .int (iv 0), .int (iv 0), .int (iv 0), .int (iv 0), .int (iv 0)]) (rest := []) hC hE hP hD hS hl.1 (A_taken_ia l ε hst hH 0 0 0 0 0 0 (by decide) (by decide) (by decide) (by decide) (by decide) (by decide) (by omega)) m_15_12 m_15_13 m_0_5 m_15_14 hd_yL_taken rfl ⟨⟨by decide, by decide⟩, (Nat.le_of_ble_eq_true rfl), (Nat.le_of_ble_eq_true rfl)⟩ (Nat.le_of_ble_eq_true rfl) rfl dL_refuses_852 kxN (fun v w_4 H locs hq hP hD hS => ?_)
                  refine W.widen (k := 186) (n := 21408) (Nat.le_of_ble_eq_true rfl) (Nat.le_of_ble_eq_true rfl) ?_
                  rw [hq.2] at hP hD
                  rw [hq.1]
                  dsimp only [Option.toList, List.cons_append, List.nil_append]
                  refine lv_bipush (pc := 855) (v := iv (-72)) hx hb dL_refuses_855 (by decide) ?_
                  refine r_icmp_ne (pc := 857) (a := (-72)) (b := (-72)) hx hb dL_refuses_857 (tgt := 864) (by decide) ⟨by omega, by omega⟩ ⟨by omega, by omega⟩ (fun c_857 => ?_) (fun c_857 => ?_)
                  · exact absurd c_857 (by decide)
                  · have c_857_ := c_857
                    refine lv_iconst (pc := 860) (v := iv 1) hx hb dL_refuses_860 rfl ?_
                    refine lv_goto (pc := 861) (tgt := 865) hx hb dL_refuses_861 (by decide) ?_
                    refine lv_istore (lv' := [(15, .int (iv 1)), (0, .ref x), (1, .int (iv pa)), (2, .int (iv la)), (3, .int (iv ca)), (4, .int (iv (n 3))), (5, .int (iv (clcB G (n 2).toNat))), (6, .int (iv 2147483647)), (7, .int (iv 0)), (8, .int (iv ((-1)))), (9, .int (iv ((-1)))), (10, .int (iv ((-1)))), (11, .int (iv ((-1)))), (12, .int (iv ((-1)))), (13, .int (iv 0)), (14, .int (iv 0))]) (pc := 865) hx hb dL_refuses_865 hl (by decide) rfl (fun ls hl => ?_)
                    refine W.widen (k := 186) (n := 21408) (Nat.le_of_ble_eq_true rfl) (Nat.le_of_ble_eq_true rfl) ?_
                    exact hnx _ _ _ _ _ _ _ _ _ hC hE hQ _ _ _ _ rfl hP hD hS (lv_sub hl [1, 2, 3, 4, 5, 6, 7, 8, 9, 10, 11, 12, 13, 14, 15, 0] rfl)
            · exact absurd c_804 (by decide)
set_option maxRecDepth 100000 in
set_option maxHeartbeats 8000000 in
theorem sr_6 (l : Launch) (ε : EV) (hst : l.stackTraces = false) {x : Nat} {n : Nat → Int} {G : Nat → Nat → Int} {w : va_W} (hHw : HS ε x n G w) (pa la ca : Int) (hpa : pa = n 1) (hla : la = n 2) (hca : ca = n 4) (h3 : n 3 < 512) (hnx : SEG l ε yL_refuses cL_refuses 16 rm_A_refuses (fun v z => v = some (.int (iv 1)) ∧ z = w) 19 186 21408 [(0, .ref x), (1, .int (iv pa)), (2, .int (iv la)), (3, .int (iv ca)), (4, .int (iv (n 3))), (5, .int (iv (clcB G (n 2).toNat))), (6, .int (iv 2147483647)), (7, .int (iv 1))] (fun z => z = w)) : SEG l ε yL_refuses cL_refuses 16 rm_A_refuses (fun v z => v = some (.int (iv 1)) ∧ z = w) 867 186 21408 [(0, .ref x), (1, .int (iv pa)), (2, .int (iv la)), (3, .int (iv ca)), (4, .int (iv (n 3))), (5, .int (iv (clcB G (n 2).toNat))), (6, .int (iv 2147483647)), (7, .int (iv 0)), (8, .int (iv ((-1)))), (9, .int (iv ((-1)))), (10, .int (iv ((-1)))), (11, .int (iv ((-1)))), (12, .int (iv ((-1)))), (13, .int (iv 0)), (14, .int (iv 0)), (15, .int (iv 1))] (fun z => z = w) := by
  intro p9 e9 s9 m9 a9 bl9 me9 c9 Q9 hC hE hQ H locs ls w9 hH hP hD hS hl
  have hx := hC.1
  have hb := hC.2.1
  have hK := hE.K
  subst hH
  have hH := hHw
  obtain ⟨fo, hob⟩ := hH.ob
  have hI := hH.inv
  have hN := hI.NB
  have hlp := lamp_patt hI
  refine lv_iload (pc := 867) hx hb dL_refuses_867 (lv_at hl 15 rfl) ?_
  refine r_if_ne (pc := 869) (a := 1) hx hb dL_refuses_869 (tgt := 874) (by decide) ⟨by omega, by omega⟩ (fun c_869 => ?_) (fun c_869 => ?_)
  · have c_869_ := c_869
    refine lv_iinc (v := iv (1)) (lv' := [(7, .int (iv 1)), (0, .ref x), (1, .int (iv pa)), (2, .int (iv la)), (3, .int (iv ca)), (4, .int (iv (n 3))), (5, .int (iv (clcB G (n 2).toNat))), (6, .int (iv 2147483647)), (8, .int (iv ((-1)))), (9, .int (iv ((-1)))), (10, .int (iv ((-1)))), (11, .int (iv ((-1)))), (12, .int (iv ((-1)))), (13, .int (iv 0)), (14, .int (iv 0)), (15, .int (iv 1))]) (pc := 874) hx hb dL_refuses_874 hl (k := 7) rfl (iv_add _ _) (by decide) rfl (fun ls hl => ?_)
    refine lv_goto (pc := 877) (tgt := 19) hx hb dL_refuses_877 (by decide) ?_
    refine W.widen (k := 186) (n := 21408) (Nat.le_of_ble_eq_true rfl) (Nat.le_of_ble_eq_true rfl) ?_
    exact hnx _ _ _ _ _ _ _ _ _ hC hE hQ _ _ _ _ rfl hP hD hS (lv_sub hl [1, 2, 3, 4, 5, 6, 7, 0] rfl)
  · exact absurd c_869 (by decide)
set_option maxRecDepth 100000 in
set_option maxHeartbeats 8000000 in
theorem sr_7 (l : Launch) (ε : EV) (hst : l.stackTraces = false) {x : Nat} {n : Nat → Int} {G : Nat → Nat → Int} {w : va_W} (hHw : HS ε x n G w) (pa la ca : Int) (hpa : pa = n 1) (hla : la = n 2) (hca : ca = n 4) (h3 : n 3 < 512) (hnx : SEG l ε yL_refuses cL_refuses 16 rm_A_refuses (fun v z => v = some (.int (iv 1)) ∧ z = w) 409 245 27084 [(0, .ref x), (1, .int (iv pa)), (2, .int (iv la)), (3, .int (iv ca)), (4, .int (iv (n 3))), (5, .int (iv (clcB G (n 2).toNat))), (6, .int (iv 2147483647)), (7, .int (iv 1)), (8, .int (iv ((-2147483648)))), (9, .int (iv pa)), (10, .int (iv la)), (11, .int (iv ca)), (12, .int (iv 32)), (13, .int (iv 41)), (14, .int (iv 256)), (15, .int (iv 1))] (fun z => z = w)) : SEG l ε yL_refuses cL_refuses 16 rm_A_refuses (fun v z => v = some (.int (iv 1)) ∧ z = w) 19 186 21408 [(0, .ref x), (1, .int (iv pa)), (2, .int (iv la)), (3, .int (iv ca)), (4, .int (iv (n 3))), (5, .int (iv (clcB G (n 2).toNat))), (6, .int (iv 2147483647)), (7, .int (iv 1))] (fun z => z = w) := by
  intro p9 e9 s9 m9 a9 bl9 me9 c9 Q9 hC hE hQ H locs ls w9 hH hP hD hS hl
  have hx := hC.1
  have hb := hC.2.1
  have hK := hE.K
  subst hH
  have hH := hHw
  obtain ⟨fo, hob⟩ := hH.ob
  have hI := hH.inv
  have hN := hI.NB
  have hlp := lamp_patt hI
  refine lv_iload (pc := 19) hx hb dL_refuses_19 (lv_at hl 7 rfl) ?_
  refine lv_iconst (pc := 21) (v := iv 4) hx hb dL_refuses_21 rfl ?_
  refine r_icmp_ge (pc := 22) (a := 1) (b := 4) hx hb dL_refuses_22 (tgt := 880) (by decide) ⟨by omega, by omega⟩ ⟨by omega, by omega⟩ (fun c_22 => ?_) (fun c_22 => ?_)
  · exact absurd c_22 (by decide)
  · have c_22_ := c_22
    refine lv_iload (pc := 25) hx hb dL_refuses_25 (lv_at hl 7 rfl) ?_
    refine r_if_ne (pc := 27) (a := 1) hx hb dL_refuses_27 (tgt := 34) (by decide) ⟨by omega, by omega⟩ (fun c_27 => ?_) (fun c_27 => ?_)
    · have c_27_ := c_27
      refine lv_iload (pc := 34) hx hb dL_refuses_34 (lv_at hl 7 rfl) ?_
      refine lv_iconst (pc := 36) (v := iv 2) hx hb dL_refuses_36 rfl ?_
      refine r_icmp_ne (pc := 37) (a := 1) (b := 2) hx hb dL_refuses_37 (tgt := 45) (by decide) ⟨by omega, by omega⟩ ⟨by omega, by omega⟩ (fun c_37 => ?_) (fun c_37 => ?_)
      · have c_37_ := c_37
        refine lv_iload (pc := 45) hx hb dL_refuses_45 (lv_at hl 6 rfl) ?_
        refine r_ineg (pc := 47) (a := 2147483647) hx hb dL_refuses_47 ?_
        refine lv_iconst (pc := 48) (v := iv 1) hx hb dL_refuses_48 rfl ?_
        refine r_isub (pc := 49) (a := (-2147483647)) (b := 1) hx hb dL_refuses_49 ?_
        rw [show (((-2147483647)) - 1 : Int) = (-2147483648) by decide]
        refine lv_istore (lv' := [(8, .int (iv ((-2147483648)))), (0, .ref x), (1, .int (iv pa)), (2, .int (iv la)), (3, .int (iv ca)), (4, .int (iv (n 3))), (5, .int (iv (clcB G (n 2).toNat))), (6, .int (iv 2147483647)), (7, .int (iv 1))]) (pc := 50) hx hb dL_refuses_50 hl (by decide) rfl (fun ls hl => ?_)
        refine lv_iload (pc := 52) hx hb dL_refuses_52 (lv_at hl 8 rfl) ?_
        refine lv_iconst (pc := 54) (v := iv 1) hx hb dL_refuses_54 rfl ?_
        refine r_icmp_ne (pc := 55) (a := 1) (b := 1) hx hb dL_refuses_55 (tgt := 62) (by decide) ⟨by omega, by omega⟩ ⟨by omega, by omega⟩ (fun c_55 => ?_) (fun c_55 => ?_)
        · exact absurd c_55 (by decide)
        · have c_55_ := c_55
          refine lv_iload_n (pc := 58) hx hb dL_refuses_58 rfl (lv_at hl 2 rfl) ?_
          refine lv_goto (pc := 59) (tgt := 64) hx hb dL_refuses_59 (by decide) ?_
          refine lv_istore (lv' := [(9, .int (iv pa)), (8, .int (iv ((-2147483648)))), (0, .ref x), (1, .int (iv pa)), (2, .int (iv la)), (3, .int (iv ca)), (4, .int (iv (n 3))), (5, .int (iv (clcB G (n 2).toNat))), (6, .int (iv 2147483647)), (7, .int (iv 1))]) (pc := 64) hx hb dL_refuses_64 hl (by decide) rfl (fun ls hl => ?_)
          refine lv_iload (pc := 66) hx hb dL_refuses_66 (lv_at hl 9 rfl) ?_
          refine lv_iconst (pc := 68) (v := iv 1) hx hb dL_refuses_68 rfl ?_
          refine r_icmp_ne (pc := 69) (a := 1) (b := 1) hx hb dL_refuses_69 (tgt := 76) (by decide) ⟨by omega, by omega⟩ ⟨by omega, by omega⟩ (fun c_69 => ?_) (fun c_69 => ?_)
          · exact absurd c_69 (by decide)
          · have c_69_ := c_69
            refine lv_iload_n (pc := 72) hx hb dL_refuses_72 rfl (lv_at hl 4 rfl) ?_
            refine lv_goto (pc := 73) (tgt := 78) hx hb dL_refuses_73 (by decide) ?_
            refine lv_istore (lv' := [(10, .int (iv la)), (9, .int (iv pa)), (8, .int (iv ((-2147483648)))), (0, .ref x), (1, .int (iv pa)), (2, .int (iv la)), (3, .int (iv ca)), (4, .int (iv (n 3))), (5, .int (iv (clcB G (n 2).toNat))), (6, .int (iv 2147483647)), (7, .int (iv 1))]) (pc := 78) hx hb dL_refuses_78 hl (by decide) rfl (fun ls hl => ?_)
            refine lv_iload (pc := 80) hx hb dL_refuses_80 (lv_at hl 10 rfl) ?_
            refine lv_iconst (pc := 82) (v := iv 1) hx hb dL_refuses_82 rfl ?_
            refine r_icmp_ne (pc := 83) (a := 1) (b := 1) hx hb dL_refuses_83 (tgt := 90) (by decide) ⟨by omega, by omega⟩ ⟨by omega, by omega⟩ (fun c_83 => ?_) (fun c_83 => ?_)
            · exact absurd c_83 (by decide)
            · have c_83_ := c_83
              refine lv_iload_n (pc := 86) hx hb dL_refuses_86 rfl (lv_at hl 6 rfl) ?_
              refine lv_goto (pc := 87) (tgt := 92) hx hb dL_refuses_87 (by decide) ?_
              refine lv_istore (lv' := [(11, .int (iv ca)), (10, .int (iv la)), (9, .int (iv pa)), (8, .int (iv ((-2147483648)))), (0, .ref x), (1, .int (iv pa)), (2, .int (iv la)), (3, .int (iv ca)), (4, .int (iv (n 3))), (5, .int (iv (clcB G (n 2).toNat))), (6, .int (iv 2147483647)), (7, .int (iv 1))]) (pc := 92) hx hb dL_refuses_92 hl (by decide) rfl (fun ls hl => ?_)
              refine lv_iload (pc := 94) hx hb dL_refuses_94 (lv_at hl 11 rfl) ?_
              refine lv_iconst (pc := 96) (v := iv 1) hx hb dL_refuses_96 rfl ?_
              refine r_icmp_ne (pc := 97) (a := 1) (b := 1) hx hb dL_refuses_97 (tgt := 105) (by decide) ⟨by omega, by omega⟩ ⟨by omega, by omega⟩ (fun c_97 => ?_) (fun c_97 => ?_)
              · exact absurd c_97 (by decide)
              · have c_97_ := c_97
                refine lv_bipush (pc := 100) (v := iv 32) hx hb dL_refuses_100 (by decide) ?_
                refine lv_goto (pc := 102) (tgt := 107) hx hb dL_refuses_102 (by decide) ?_
                refine lv_istore (lv' := [(12, .int (iv 32)), (11, .int (iv ca)), (10, .int (iv la)), (9, .int (iv pa)), (8, .int (iv ((-2147483648)))), (0, .ref x), (1, .int (iv pa)), (2, .int (iv la)), (3, .int (iv ca)), (4, .int (iv (n 3))), (5, .int (iv (clcB G (n 2).toNat))), (6, .int (iv 2147483647)), (7, .int (iv 1))]) (pc := 107) hx hb dL_refuses_107 hl (by decide) rfl (fun ls hl => ?_)
                refine lv_iload (pc := 109) hx hb dL_refuses_109 (lv_at hl 12 rfl) ?_
                refine r_if_ne (pc := 111) (a := 1) hx hb dL_refuses_111 (tgt := 118) (by decide) ⟨by omega, by omega⟩ (fun c_111 => ?_) (fun c_111 => ?_)
                · have c_111_ := c_111
                  refine lv_iload (pc := 118) hx hb dL_refuses_118 (lv_at hl 12 rfl) ?_
                  refine lv_iconst (pc := 120) (v := iv 1) hx hb dL_refuses_120 rfl ?_
                  refine r_icmp_ne (pc := 121) (a := 1) (b := 1) hx hb dL_refuses_121 (tgt := 129) (by decide) ⟨by omega, by omega⟩ ⟨by omega, by omega⟩ (fun c_121 => ?_) (fun c_121 => ?_)
                  · exact absurd c_121 (by decide)
                  · have c_121_ := c_121
                    refine lv_bipush (pc := 124) (v := iv 41) hx hb dL_refuses_124 (by decide) ?_
                    refine lv_goto (pc := 126) (tgt := 131) hx hb dL_refuses_126 (by decide) ?_
                    refine lv_istore (lv' := [(13, .int (iv 41)), (12, .int (iv 32)), (11, .int (iv ca)), (10, .int (iv la)), (9, .int (iv pa)), (8, .int (iv ((-2147483648)))), (0, .ref x), (1, .int (iv pa)), (2, .int (iv la)), (3, .int (iv ca)), (4, .int (iv (n 3))), (5, .int (iv (clcB G (n 2).toNat))), (6, .int (iv 2147483647)), (7, .int (iv 1))]) (pc := 131) hx hb dL_refuses_131 hl (by decide) rfl (fun ls hl => ?_)
                    refine lv_iload (pc := 133) hx hb dL_refuses_133 (lv_at hl 13 rfl) ?_
                    refine r_if_ne (pc := 135) (a := 1) hx hb dL_refuses_135 (tgt := 142) (by decide) ⟨by omega, by omega⟩ (fun c_135 => ?_) (fun c_135 => ?_)
                    · have c_135_ := c_135
                      refine lv_iload (pc := 142) hx hb dL_refuses_142 (lv_at hl 13 rfl) ?_
                      refine lv_iconst (pc := 144) (v := iv 1) hx hb dL_refuses_144 rfl ?_
                      refine r_icmp_ne (pc := 145) (a := 1) (b := 1) hx hb dL_refuses_145 (tgt := 154) (by decide) ⟨by omega, by omega⟩ ⟨by omega, by omega⟩ (fun c_145 => ?_) (fun c_145 => ?_)
                      · exact absurd c_145 (by decide)
                      · have c_145_ := c_145
                        refine lv_sipush (pc := 148) (v := iv 256) hx hb dL_refuses_148 (by decide) ?_
                        refine lv_goto (pc := 151) (tgt := 156) hx hb dL_refuses_151 (by decide) ?_
                        refine lv_istore (lv' := [(14, .int (iv 256)), (13, .int (iv 41)), (12, .int (iv 32)), (11, .int (iv ca)), (10, .int (iv la)), (9, .int (iv pa)), (8, .int (iv ((-2147483648)))), (0, .ref x), (1, .int (iv pa)), (2, .int (iv la)), (3, .int (iv ca)), (4, .int (iv (n 3))), (5, .int (iv (clcB G (n 2).toNat))), (6, .int (iv 2147483647)), (7, .int (iv 1))]) (pc := 156) hx hb dL_refuses_156 hl (by decide) rfl (fun ls hl => ?_)
                        refine lv_aload_n (pc := 158) hx hb dL_refuses_158 rfl (lv_at hl 7 rfl) ?_
                        refine lv_iconst (pc := 159) (v := iv 0) hx hb dL_refuses_159 rfl ?_
                        refine lv_iload (pc := 160) hx hb dL_refuses_160 (lv_at hl 14 rfl) ?_
                        refine r_if_ne (pc := 162) (a := 1) hx hb dL_refuses_162 (tgt := 169) (by decide) ⟨by omega, by omega⟩ (fun c_162 => ?_) (fun c_162 => ?_)
                        · have c_162_ := c_162
                          refine lv_iload (pc := 169) hx hb dL_refuses_169 (lv_at hl 14 rfl) ?_
                          refine lv_iconst (pc := 171) (v := iv 1) hx hb dL_refuses_171 rfl ?_
                          refine r_icmp_ne (pc := 172) (a := 1) (b := 1) hx hb dL_refuses_172 (tgt := 180) (by decide) ⟨by omega, by omega⟩ ⟨by omega, by omega⟩ (fun c_172 => ?_) (fun c_172 => ?_)
                          · exact absurd c_172 (by decide)
                          · have c_172_ := c_172
                            refine lv_bipush (pc := 175) (v := iv 10) hx hb dL_refuses_175 (by decide) ?_
                            refine lv_goto (pc := 177) (tgt := 182) hx hb dL_refuses_177 (by decide) ?_
                            refine lv_iconst (pc := 182) (v := iv 0) hx hb dL_refuses_182 rfl ?_
                            refine lv_iconst (pc := 183) (v := iv 0) hx hb dL_refuses_183 rfl ?_
                            refine c_callSW (pc := 184) (y := yL_act) (As := [.ref x, .int (iv 0), .int (iv 10), .int (iv 0), .int (iv 0)]) (rest := []) hC hE hP hD hS hl.1 (A_phase_ia l ε hst hH 10 0 0 (by decide) (by decide) (by decide) (by omega)) m_4_18 m_4_19 m_0_5 m_4_20 hd_yL_act rfl ⟨⟨by decide, by decide⟩, (Nat.le_of_ble_eq_true rfl), (Nat.le_of_ble_eq_true rfl)⟩ (Nat.le_of_ble_eq_true rfl) rfl dL_refuses_184 kxN (fun v w_1 H locs hq hP hD hS => ?_)
                            refine W.widen (k := 188) (n := 21420) (Nat.le_of_ble_eq_true rfl) (Nat.le_of_ble_eq_true rfl) ?_
                            rw [hq.2] at hP hD
                            rw [hq.1]
                            dsimp only [Option.toList, List.cons_append, List.nil_append]
                            refine lv_bipush (pc := 187) (v := iv (-72)) hx hb dL_refuses_187 (by decide) ?_
                            refine r_icmp_ne (pc := 189) (a := (-72)) (b := (-72)) hx hb dL_refuses_189 (tgt := 406) (by decide) ⟨by omega, by omega⟩ ⟨by omega, by omega⟩ (fun c_189 => ?_) (fun c_189 => ?_)
                            · exact absurd c_189 (by decide)
                            · have c_189_ := c_189
                              refine lv_aload_n (pc := 192) hx hb dL_refuses_192 rfl (lv_at hl 7 rfl) ?_
                              refine lv_iconst (pc := 193) (v := iv 2) hx hb dL_refuses_193 rfl ?_
                              refine lv_iload (pc := 194) hx hb dL_refuses_194 (lv_at hl 5 rfl) ?_
                              refine lv_iconst (pc := 196) (v := iv 0) hx hb dL_refuses_196 rfl ?_
                              refine lv_iconst (pc := 197) (v := iv 0) hx hb dL_refuses_197 rfl ?_
                              refine c_callSW (pc := 198) (y := yL_act) (As := [.ref x, .int (iv 2), .int (iv pa), .int (iv 0), .int (iv 0)]) (rest := []) hC hE hP hD hS hl.1 (A_period_io l ε hst hH pa 0 0 ⟨by omega, by omega⟩ (by decide) (by decide) (by omega)) m_4_18 m_4_19 m_0_5 m_4_20 hd_yL_act rfl ⟨⟨by decide, by decide⟩, (Nat.le_of_ble_eq_true rfl), (Nat.le_of_ble_eq_true rfl)⟩ (Nat.le_of_ble_eq_true rfl) rfl dL_refuses_198 kxN (fun v w_2 H locs hq hP hD hS => ?_)
                              refine W.widen (k := 189) (n := 21426) (Nat.le_of_ble_eq_true rfl) (Nat.le_of_ble_eq_true rfl) ?_
                              rw [hq.2] at hP hD
                              rw [hq.1]
                              dsimp only [Option.toList, List.cons_append, List.nil_append]
                              refine lv_bipush (pc := 201) (v := iv (-71)) hx hb dL_refuses_201 (by decide) ?_
                              refine r_icmp_ne (pc := 203) (a := (-71)) (b := (-71)) hx hb dL_refuses_203 (tgt := 406) (by decide) ⟨by omega, by omega⟩ ⟨by omega, by omega⟩ (fun c_203 => ?_) (fun c_203 => ?_)
                              · exact absurd c_203 (by decide)
                              · have c_203_ := c_203
                                refine lv_aload_n (pc := 206) hx hb dL_refuses_206 rfl (lv_at hl 7 rfl) ?_
                                refine lv_iconst (pc := 207) (v := iv 3) hx hb dL_refuses_207 rfl ?_
                                refine lv_iload (pc := 208) hx hb dL_refuses_208 (lv_at hl 5 rfl) ?_
                                refine lv_iload (pc := 210) hx hb dL_refuses_210 (lv_at hl 5 rfl) ?_
                                refine lv_iconst (pc := 212) (v := iv 0) hx hb dL_refuses_212 rfl ?_
                                refine c_callSW (pc := 213) (y := yL_act) (As := [.ref x, .int (iv 3), .int (iv pa), .int (iv pa), .int (iv 0)]) (rest := []) hC hE hP hD hS hl.1 (A_alike_io l ε hst hH pa pa 0 ⟨by omega, by omega⟩ ⟨by omega, by omega⟩ (by decide) (by omega)) m_4_18 m_4_19 m_0_5 m_4_20 hd_yL_act rfl ⟨⟨by decide, by decide⟩, (Nat.le_of_ble_eq_true rfl), (Nat.le_of_ble_eq_true rfl)⟩ (Nat.le_of_ble_eq_true rfl) rfl dL_refuses_213 kxN (fun v w_3 H locs hq hP hD hS => ?_)
                                refine W.widen (k := 191) (n := 21438) (Nat.le_of_ble_eq_true rfl) (Nat.le_of_ble_eq_true rfl) ?_
                                rw [hq.2] at hP hD
                                rw [hq.1]
                                dsimp only [Option.toList, List.cons_append, List.nil_append]
                                refine lv_bipush (pc := 216) (v := iv (-71)) hx hb dL_refuses_216 (by decide) ?_
                                refine r_icmp_ne (pc := 218) (a := (-71)) (b := (-71)) hx hb dL_refuses_218 (tgt := 406) (by decide) ⟨by omega, by omega⟩ ⟨by omega, by omega⟩ (fun c_218 => ?_) (fun c_218 => ?_)
                                · exact absurd c_218 (by decide)
                                · have c_218_ := c_218
                                  refine lv_aload_n (pc := 221) hx hb dL_refuses_221 rfl (lv_at hl 7 rfl) ?_
                                  refine lv_iconst (pc := 222) (v := iv 4) hx hb dL_refuses_222 rfl ?_
                                  refine lv_iload (pc := 223) hx hb dL_refuses_223 (lv_at hl 5 rfl) ?_
                                  refine lv_iload (pc := 225) hx hb dL_refuses_225 (lv_at hl 5 rfl) ?_
                                  refine lv_iconst (pc := 227) (v := iv 0) hx hb dL_refuses_227 rfl ?_
                                  refine c_callSW (pc := 228) (y := yL_act) (As := [.ref x, .int (iv 4), .int (iv pa), .int (iv pa), .int (iv 0)]) (rest := []) hC hE hP hD hS hl.1 (A_alikes_io l ε hst hH pa pa 0 ⟨by omega, by omega⟩ ⟨by omega, by omega⟩ (by decide) (by omega)) m_4_18 m_4_19 m_0_5 m_4_20 hd_yL_act rfl ⟨⟨by decide, by decide⟩, (Nat.le_of_ble_eq_true rfl), (Nat.le_of_ble_eq_true rfl)⟩ (Nat.le_of_ble_eq_true rfl) rfl dL_refuses_228 kxN (fun v w_4 H locs hq hP hD hS => ?_)
                                  refine W.widen (k := 193) (n := 21450) (Nat.le_of_ble_eq_true rfl) (Nat.le_of_ble_eq_true rfl) ?_
                                  rw [hq.2] at hP hD
                                  rw [hq.1]
                                  dsimp only [Option.toList, List.cons_append, List.nil_append]
                                  refine lv_bipush (pc := 231) (v := iv (-71)) hx hb dL_refuses_231 (by decide) ?_
                                  refine r_icmp_ne (pc := 233) (a := (-71)) (b := (-71)) hx hb dL_refuses_233 (tgt := 406) (by decide) ⟨by omega, by omega⟩ ⟨by omega, by omega⟩ (fun c_233 => ?_) (fun c_233 => ?_)
                                  · exact absurd c_233 (by decide)
                                  · have c_233_ := c_233
                                    refine lv_aload_n (pc := 236) hx hb dL_refuses_236 rfl (lv_at hl 7 rfl) ?_
                                    refine lv_iconst (pc := 237) (v := iv (-1)) hx hb dL_refuses_237 rfl ?_
                                    refine lv_iconst (pc := 238) (v := iv 0) hx hb dL_refuses_238 rfl ?_
                                    refine lv_iload (pc := 239) hx hb dL_refuses_239 (lv_at hl 5 rfl) ?_
                                    refine lv_iconst (pc := 241) (v := iv 0) hx hb dL_refuses_241 rfl ?_
                                    refine lv_iconst (pc := 242) (v := iv 0) hx hb dL_refuses_242 rfl ?_
                                    refine c_callSW (pc := 243) (y := yL_lamp) (As := [.ref x, .int (iv ((-1))), .int (iv 0), .int (iv pa), .int (iv 0), .int (iv 0)]) (rest := []) hC hE hP hD hS hl.1 (A_lamp_io l ε hst hH ((-1)) 0 pa 0 0 (by decide) (by decide) ⟨by omega, by omega⟩ (by decide) (by decide) h3 (by omega)) m_14_15 m_14_16 m_0_5 m_14_17 hd_yL_lamp rfl ⟨⟨by decide, by decide⟩, (Nat.le_of_ble_eq_true rfl), (Nat.le_of_ble_eq_true rfl)⟩ (Nat.le_of_ble_eq_true rfl) rfl dL_refuses_243 kxN (fun v w_5 H locs hq hP hD hS => ?_)
                                    refine W.widen (k := 207) (n := 24750) (Nat.le_of_ble_eq_true rfl) (Nat.le_of_ble_eq_true rfl) ?_
                                    rw [hq.2] at hP hD
                                    rw [hq.1]
                                    dsimp only [Option.toList, List.cons_append, List.nil_append]
                                    refine lv_bipush (pc := 246) (v := iv (-71)) hx hb dL_refuses_246 (by decide) ?_
                                    refine r_icmp_ne (pc := 248) (a := (-71)) (b := (-71)) hx hb dL_refuses_248 (tgt := 406) (by decide) ⟨by omega, by omega⟩ ⟨by omega, by omega⟩ (fun c_248 => ?_) (fun c_248 => ?_)
                                    · exact absurd c_248 (by decide)
                                    · have c_248_ := c_248
                                      refine lv_aload_n (pc := 251) hx hb dL_refuses_251 rfl (lv_at hl 7 rfl) ?_
                                      refine lv_iconst (pc := 252) (v := iv 5) hx hb dL_refuses_252 rfl ?_
                                      refine lv_iload (pc := 253) hx hb dL_refuses_253 (lv_at hl 4 rfl) ?_
                                      refine lv_iconst (pc := 255) (v := iv 0) hx hb dL_refuses_255 rfl ?_
                                      refine lv_iconst (pc := 256) (v := iv (-1)) hx hb dL_refuses_256 rfl ?_
                                      refine c_callSW (pc := 257) (y := yL_act) (As := [.ref x, .int (iv 5), .int (iv la), .int (iv 0), .int (iv ((-1)))]) (rest := []) hC hE hP hD hS hl.1 (A_change_io l ε hst hH la 0 ((-1)) ⟨by omega, by omega⟩ (by decide) (by decide) h3 (by omega)) m_4_18 m_4_19 m_0_5 m_4_20 hd_yL_act rfl ⟨⟨by decide, by decide⟩, (Nat.le_of_ble_eq_true rfl), (Nat.le_of_ble_eq_true rfl)⟩ (Nat.le_of_ble_eq_true rfl) rfl dL_refuses_257 kxN (fun v w_6 H locs hq hP hD hS => ?_)
                                      refine W.widen (k := 215) (n := 25850) (Nat.le_of_ble_eq_true rfl) (Nat.le_of_ble_eq_true rfl) ?_
                                      rw [hq.2] at hP hD
                                      rw [hq.1]
                                      dsimp only [Option.toList, List.cons_append, List.nil_append]
                                      refine lv_bipush (pc := 260) (v := iv (-71)) hx hb dL_refuses_260 (by decide) ?_
                                      refine r_icmp_ne (pc := 262) (a := (-71)) (b := (-71)) hx hb dL_refuses_262 (tgt := 406) (by decide) ⟨by omega, by omega⟩ ⟨by omega, by omega⟩ (fun c_262 => ?_) (fun c_262 => ?_)
                                      · exact absurd c_262 (by decide)
                                      · have c_262_ := c_262
                                        refine lv_aload_n (pc := 265) hx hb dL_refuses_265 rfl (lv_at hl 7 rfl) ?_
                                        refine lv_bipush (pc := 266) (v := iv 6) hx hb dL_refuses_266 (by decide) ?_
                                        refine lv_iload (pc := 268) hx hb dL_refuses_268 (lv_at hl 4 rfl) ?_
                                        refine lv_iconst (pc := 270) (v := iv 1) hx hb dL_refuses_270 rfl ?_
                                        refine lv_iconst (pc := 271) (v := iv 0) hx hb dL_refuses_271 rfl ?_
                                        refine c_callSW (pc := 272) (y := yL_act) (As := [.ref x, .int (iv 6), .int (iv la), .int (iv 1), .int (iv 0)]) (rest := []) hC hE hP hD hS hl.1 (A_fail1_io l ε hst hH la 0 ⟨by omega, by omega⟩ (by decide) h3 (by omega)) m_4_18 m_4_19 m_0_5 m_4_20 hd_yL_act rfl ⟨⟨by decide, by decide⟩, (Nat.le_of_ble_eq_true rfl), (Nat.le_of_ble_eq_true rfl)⟩ (Nat.le_of_ble_eq_true rfl) rfl dL_refuses_272 kxN (fun v w_7 H locs hq hP hD hS => ?_)
                                        refine W.widen (k := 223) (n := 26950) (Nat.le_of_ble_eq_true rfl) (Nat.le_of_ble_eq_true rfl) ?_
                                        rw [hq.2] at hP hD
                                        rw [hq.1]
                                        dsimp only [Option.toList, List.cons_append, List.nil_append]
                                        refine lv_bipush (pc := 275) (v := iv (-71)) hx hb dL_refuses_275 (by decide) ?_
                                        refine r_icmp_ne (pc := 277) (a := (-71)) (b := (-71)) hx hb dL_refuses_277 (tgt := 406) (by decide) ⟨by omega, by omega⟩ ⟨by omega, by omega⟩ (fun c_277 => ?_) (fun c_277 => ?_)
                                        · exact absurd c_277 (by decide)
                                        · have c_277_ := c_277
                                          refine lv_aload_n (pc := 280) hx hb dL_refuses_280 rfl (lv_at hl 7 rfl) ?_
                                          refine lv_bipush (pc := 281) (v := iv 7) hx hb dL_refuses_281 (by decide) ?_
                                          refine lv_iload (pc := 283) hx hb dL_refuses_283 (lv_at hl 4 rfl) ?_
                                          refine lv_iconst (pc := 285) (v := iv (-1)) hx hb dL_refuses_285 rfl ?_
                                          refine lv_iconst (pc := 286) (v := iv 0) hx hb dL_refuses_286 rfl ?_
                                          refine c_callSW (pc := 287) (y := yL_act) (As := [.ref x, .int (iv 7), .int (iv la), .int (iv ((-1))), .int (iv 0)]) (rest := []) hC hE hP hD hS hl.1 (A_shines_io l ε hst hH la ((-1)) 0 ⟨by omega, by omega⟩ (by decide) (by decide) (by omega)) m_4_18 m_4_19 m_0_5 m_4_20 hd_yL_act rfl ⟨⟨by decide, by decide⟩, (Nat.le_of_ble_eq_true rfl), (Nat.le_of_ble_eq_true rfl)⟩ (Nat.le_of_ble_eq_true rfl) rfl dL_refuses_287 kxN (fun v w_8 H locs hq hP hD hS => ?_)
                                          refine W.widen (k := 225) (n := 26962) (Nat.le_of_ble_eq_true rfl) (Nat.le_of_ble_eq_true rfl) ?_
                                          rw [hq.2] at hP hD
                                          rw [hq.1]
                                          dsimp only [Option.toList, List.cons_append, List.nil_append]
                                          refine lv_bipush (pc := 290) (v := iv (-71)) hx hb dL_refuses_290 (by decide) ?_
                                          refine r_icmp_ne (pc := 292) (a := (-71)) (b := (-71)) hx hb dL_refuses_292 (tgt := 406) (by decide) ⟨by omega, by omega⟩ ⟨by omega, by omega⟩ (fun c_292 => ?_) (fun c_292 => ?_)
                                          · exact absurd c_292 (by decide)
                                          · have c_292_ := c_292
                                            refine lv_aload_n (pc := 295) hx hb dL_refuses_295 rfl (lv_at hl 7 rfl) ?_
                                            refine lv_bipush (pc := 296) (v := iv 8) hx hb dL_refuses_296 (by decide) ?_
                                            refine lv_iload (pc := 298) hx hb dL_refuses_298 (lv_at hl 4 rfl) ?_
                                            refine lv_iconst (pc := 300) (v := iv (-1)) hx hb dL_refuses_300 rfl ?_
                                            refine lv_iconst (pc := 301) (v := iv 0) hx hb dL_refuses_301 rfl ?_
                                            refine c_callSW (pc := 302) (y := yL_act) (As := [.ref x, .int (iv 8), .int (iv la), .int (iv ((-1))), .int (iv 0)]) (rest := []) hC hE hP hD hS hl.1 (A_sector_io l ε hst hH la ((-1)) 0 ⟨by omega, by omega⟩ (by decide) (by decide) (by omega)) m_4_18 m_4_19 m_0_5 m_4_20 hd_yL_act rfl ⟨⟨by decide, by decide⟩, (Nat.le_of_ble_eq_true rfl), (Nat.le_of_ble_eq_true rfl)⟩ (Nat.le_of_ble_eq_true rfl) rfl dL_refuses_302 kxN (fun v w_9 H locs hq hP hD hS => ?_)
                                            refine W.widen (k := 228) (n := 26980) (Nat.le_of_ble_eq_true rfl) (Nat.le_of_ble_eq_true rfl) ?_
                                            rw [hq.2] at hP hD
                                            rw [hq.1]
                                            dsimp only [Option.toList, List.cons_append, List.nil_append]
                                            refine lv_bipush (pc := 305) (v := iv (-71)) hx hb dL_refuses_305 (by decide) ?_
                                            refine r_icmp_ne (pc := 307) (a := (-71)) (b := (-71)) hx hb dL_refuses_307 (tgt := 406) (by decide) ⟨by omega, by omega⟩ ⟨by omega, by omega⟩ (fun c_307 => ?_) (fun c_307 => ?_)
                                            · exact absurd c_307 (by decide)
                                            · have c_307_ := c_307
                                              refine lv_aload_n (pc := 310) hx hb dL_refuses_310 rfl (lv_at hl 7 rfl) ?_
                                              refine lv_bipush (pc := 311) (v := iv 9) hx hb dL_refuses_311 (by decide) ?_
                                              refine lv_iload (pc := 313) hx hb dL_refuses_313 (lv_at hl 4 rfl) ?_
                                              refine lv_iconst (pc := 315) (v := iv (-1)) hx hb dL_refuses_315 rfl ?_
                                              refine lv_iconst (pc := 316) (v := iv 0) hx hb dL_refuses_316 rfl ?_
                                              refine c_callSW (pc := 317) (y := yL_act) (As := [.ref x, .int (iv 9), .int (iv la), .int (iv ((-1))), .int (iv 0)]) (rest := []) hC hE hP hD hS hl.1 (A_isSeen_io l ε hst hH la ((-1)) 0 ⟨by omega, by omega⟩ (by decide) (by decide) (by omega)) m_4_18 m_4_19 m_0_5 m_4_20 hd_yL_act rfl ⟨⟨by decide, by decide⟩, (Nat.le_of_ble_eq_true rfl), (Nat.le_of_ble_eq_true rfl)⟩ (Nat.le_of_ble_eq_true rfl) rfl dL_refuses_317 kxN (fun v w_10 H locs hq hP hD hS => ?_)
                                              refine W.widen (k := 231) (n := 26998) (Nat.le_of_ble_eq_true rfl) (Nat.le_of_ble_eq_true rfl) ?_
                                              rw [hq.2] at hP hD
                                              rw [hq.1]
                                              dsimp only [Option.toList, List.cons_append, List.nil_append]
                                              refine lv_bipush (pc := 320) (v := iv (-71)) hx hb dL_refuses_320 (by decide) ?_
                                              refine r_icmp_ne (pc := 322) (a := (-71)) (b := (-71)) hx hb dL_refuses_322 (tgt := 406) (by decide) ⟨by omega, by omega⟩ ⟨by omega, by omega⟩ (fun c_322 => ?_) (fun c_322 => ?_)
                                              · exact absurd c_322 (by decide)
                                              · have c_322_ := c_322
                                                refine lv_aload_n (pc := 325) hx hb dL_refuses_325 rfl (lv_at hl 7 rfl) ?_
                                                refine lv_bipush (pc := 326) (v := iv 10) hx hb dL_refuses_326 (by decide) ?_
                                                refine lv_iload (pc := 328) hx hb dL_refuses_328 (lv_at hl 4 rfl) ?_
                                                refine lv_iload (pc := 330) hx hb dL_refuses_330 (lv_at hl 4 rfl) ?_
                                                refine lv_iconst (pc := 332) (v := iv 0) hx hb dL_refuses_332 rfl ?_
                                                refine c_callSW (pc := 333) (y := yL_act) (As := [.ref x, .int (iv 10), .int (iv la), .int (iv la), .int (iv 0)]) (rest := []) hC hE hP hD hS hl.1 (A_common_io l ε hst hH la la 0 ⟨by omega, by omega⟩ ⟨by omega, by omega⟩ (by decide) (by omega)) m_4_18 m_4_19 m_0_5 m_4_20 hd_yL_act rfl ⟨⟨by decide, by decide⟩, (Nat.le_of_ble_eq_true rfl), (Nat.le_of_ble_eq_true rfl)⟩ (Nat.le_of_ble_eq_true rfl) rfl dL_refuses_333 kxN (fun v w_11 H locs hq hP hD hS => ?_)
                                                refine W.widen (k := 233) (n := 27010) (Nat.le_of_ble_eq_true rfl) (Nat.le_of_ble_eq_true rfl) ?_
                                                rw [hq.2] at hP hD
                                                rw [hq.1]
                                                dsimp only [Option.toList, List.cons_append, List.nil_append]
                                                refine lv_bipush (pc := 336) (v := iv (-71)) hx hb dL_refuses_336 (by decide) ?_
                                                refine r_icmp_ne (pc := 338) (a := (-71)) (b := (-71)) hx hb dL_refuses_338 (tgt := 406) (by decide) ⟨by omega, by omega⟩ ⟨by omega, by omega⟩ (fun c_338 => ?_) (fun c_338 => ?_)
                                                · exact absurd c_338 (by decide)
                                                · have c_338_ := c_338
                                                  refine lv_aload_n (pc := 341) hx hb dL_refuses_341 rfl (lv_at hl 7 rfl) ?_
                                                  refine lv_bipush (pc := 342) (v := iv 12) hx hb dL_refuses_342 (by decide) ?_
                                                  refine lv_iload (pc := 344) hx hb dL_refuses_344 (lv_at hl 3 rfl) ?_
                                                  refine lv_iconst (pc := 346) (v := iv 0) hx hb dL_refuses_346 rfl ?_
                                                  refine lv_iconst (pc := 347) (v := iv 0) hx hb dL_refuses_347 rfl ?_
                                                  refine c_callSW (pc := 348) (y := yL_act) (As := [.ref x, .int (iv 12), .int (iv ca), .int (iv 0), .int (iv 0)]) (rest := []) hC hE hP hD hS hl.1 (A_correct_io l ε hst hH ca 0 0 ⟨by omega, by omega⟩ (by decide) (by decide) (by omega)) m_4_18 m_4_19 m_0_5 m_4_20 hd_yL_act rfl ⟨⟨by decide, by decide⟩, (Nat.le_of_ble_eq_true rfl), (Nat.le_of_ble_eq_true rfl)⟩ (Nat.le_of_ble_eq_true rfl) rfl dL_refuses_348 kxN (fun v w_12 H locs hq hP hD hS => ?_)
                                                  refine W.widen (k := 236) (n := 27030) (Nat.le_of_ble_eq_true rfl) (Nat.le_of_ble_eq_true rfl) ?_
                                                  rw [hq.2] at hP hD
                                                  rw [hq.1]
                                                  dsimp only [Option.toList, List.cons_append, List.nil_append]
                                                  refine lv_bipush (pc := 351) (v := iv (-71)) hx hb dL_refuses_351 (by decide) ?_
                                                  refine r_icmp_ne (pc := 353) (a := (-71)) (b := (-71)) hx hb dL_refuses_353 (tgt := 406) (by decide) ⟨by omega, by omega⟩ ⟨by omega, by omega⟩ (fun c_353 => ?_) (fun c_353 => ?_)
                                                  · exact absurd c_353 (by decide)
                                                  · have c_353_ := c_353
                                                    refine lv_aload_n (pc := 356) hx hb dL_refuses_356 rfl (lv_at hl 7 rfl) ?_
                                                    refine lv_bipush (pc := 357) (v := iv 13) hx hb dL_refuses_357 (by decide) ?_
                                                    refine lv_iload (pc := 359) hx hb dL_refuses_359 (lv_at hl 3 rfl) ?_
                                                    refine lv_iconst (pc := 361) (v := iv 0) hx hb dL_refuses_361 rfl ?_
                                                    refine lv_iconst (pc := 362) (v := iv 0) hx hb dL_refuses_362 rfl ?_
                                                    refine c_callSW (pc := 363) (y := yL_act) (As := [.ref x, .int (iv 13), .int (iv ca), .int (iv 0), .int (iv 0)]) (rest := []) hC hE hP hD hS hl.1 (A_behind_io l ε hst hH ca 0 0 ⟨by omega, by omega⟩ (by decide) (by decide) (by omega)) m_4_18 m_4_19 m_0_5 m_4_20 hd_yL_act rfl ⟨⟨by decide, by decide⟩, (Nat.le_of_ble_eq_true rfl), (Nat.le_of_ble_eq_true rfl)⟩ (Nat.le_of_ble_eq_true rfl) rfl dL_refuses_363 kxN (fun v w_13 H locs hq hP hD hS => ?_)
                                                    refine W.widen (k := 237) (n := 27036) (Nat.le_of_ble_eq_true rfl) (Nat.le_of_ble_eq_true rfl) ?_
                                                    rw [hq.2] at hP hD
                                                    rw [hq.1]
                                                    dsimp only [Option.toList, List.cons_append, List.nil_append]
                                                    refine lv_bipush (pc := 366) (v := iv (-71)) hx hb dL_refuses_366 (by decide) ?_
                                                    refine r_icmp_ne (pc := 368) (a := (-71)) (b := (-71)) hx hb dL_refuses_368 (tgt := 406) (by decide) ⟨by omega, by omega⟩ ⟨by omega, by omega⟩ (fun c_368 => ?_) (fun c_368 => ?_)
                                                    · exact absurd c_368 (by decide)
                                                    · have c_368_ := c_368
                                                      refine lv_aload_n (pc := 371) hx hb dL_refuses_371 rfl (lv_at hl 7 rfl) ?_
                                                      refine lv_bipush (pc := 372) (v := iv 14) hx hb dL_refuses_372 (by decide) ?_
                                                      refine lv_iload (pc := 374) hx hb dL_refuses_374 (lv_at hl 3 rfl) ?_
                                                      refine lv_iconst (pc := 376) (v := iv 0) hx hb dL_refuses_376 rfl ?_
                                                      refine lv_iconst (pc := 377) (v := iv 0) hx hb dL_refuses_377 rfl ?_
                                                      refine c_callSW (pc := 378) (y := yL_act) (As := [.ref x, .int (iv 14), .int (iv ca), .int (iv 0), .int (iv 0)]) (rest := []) hC hE hP hD hS hl.1 (A_shown_io l ε hst hH ca 0 0 ⟨by omega, by omega⟩ (by decide) (by decide) (by omega)) m_4_18 m_4_19 m_0_5 m_4_20 hd_yL_act rfl ⟨⟨by decide, by decide⟩, (Nat.le_of_ble_eq_true rfl), (Nat.le_of_ble_eq_true rfl)⟩ (Nat.le_of_ble_eq_true rfl) rfl dL_refuses_378 kxN (fun v w_14 H locs hq hP hD hS => ?_)
                                                      refine W.widen (k := 239) (n := 27048) (Nat.le_of_ble_eq_true rfl) (Nat.le_of_ble_eq_true rfl) ?_
                                                      rw [hq.2] at hP hD
                                                      rw [hq.1]
                                                      dsimp only [Option.toList, List.cons_append, List.nil_append]
                                                      refine lv_bipush (pc := 381) (v := iv (-71)) hx hb dL_refuses_381 (by decide) ?_
                                                      refine r_icmp_ne (pc := 383) (a := (-71)) (b := (-71)) hx hb dL_refuses_383 (tgt := 406) (by decide) ⟨by omega, by omega⟩ ⟨by omega, by omega⟩ (fun c_383 => ?_) (fun c_383 => ?_)
                                                      · exact absurd c_383 (by decide)
                                                      · have c_383_ := c_383
                                                        refine lv_aload_n (pc := 386) hx hb dL_refuses_386 rfl (lv_at hl 7 rfl) ?_
                                                        refine lv_iload (pc := 387) hx hb dL_refuses_387 (lv_at hl 3 rfl) ?_
                                                        refine lv_iconst (pc := 389) (v := iv (-1)) hx hb dL_refuses_389 rfl ?_
                                                        refine lv_iconst (pc := 390) (v := iv 0) hx hb dL_refuses_390 rfl ?_
                                                        refine lv_iconst (pc := 391) (v := iv 0) hx hb dL_refuses_391 rfl ?_
                                                        refine lv_iconst (pc := 392) (v := iv 0) hx hb dL_refuses_392 rfl ?_
                                                        refine lv_iconst (pc := 393) (v := iv 1) hx hb dL_refuses_393 rfl ?_
                                                        refine c_callSW (pc := 394) (y := yL_taken) (As := [.ref x, .int (iv ca), .int (iv ((-1))), .int (iv 0), .int (iv 0), .int (iv 0), .int (iv 1)]) (rest := []) hC hE hP hD hS hl.1 (A_taken_io l ε hst hH ca ((-1)) 0 0 0 1 ⟨by omega, by omega⟩ (by decide) (by decide) (by decide) (by decide) (by decide) (by omega)) m_15_12 m_15_13 m_0_5 m_15_14 hd_yL_taken rfl ⟨⟨by decide, by decide⟩, (Nat.le_of_ble_eq_true rfl), (Nat.le_of_ble_eq_true rfl)⟩ (Nat.le_of_ble_eq_true rfl) rfl dL_refuses_394 kxN (fun v w_15 H locs hq hP hD hS => ?_)
                                                        refine W.widen (k := 245) (n := 27084) (Nat.le_of_ble_eq_true rfl) (Nat.le_of_ble_eq_true rfl) ?_
                                                        rw [hq.2] at hP hD
                                                        rw [hq.1]
                                                        dsimp only [Option.toList, List.cons_append, List.nil_append]
                                                        refine lv_bipush (pc := 397) (v := iv (-71)) hx hb dL_refuses_397 (by decide) ?_
                                                        refine r_icmp_ne (pc := 399) (a := (-71)) (b := (-71)) hx hb dL_refuses_399 (tgt := 406) (by decide) ⟨by omega, by omega⟩ ⟨by omega, by omega⟩ (fun c_399 => ?_) (fun c_399 => ?_)
                                                        · exact absurd c_399 (by decide)
                                                        · have c_399_ := c_399
                                                          refine lv_iconst (pc := 402) (v := iv 1) hx hb dL_refuses_402 rfl ?_
                                                          refine lv_goto (pc := 403) (tgt := 407) hx hb dL_refuses_403 (by decide) ?_
                                                          refine lv_istore (lv' := [(15, .int (iv 1)), (14, .int (iv 256)), (13, .int (iv 41)), (12, .int (iv 32)), (11, .int (iv ca)), (10, .int (iv la)), (9, .int (iv pa)), (8, .int (iv ((-2147483648)))), (0, .ref x), (1, .int (iv pa)), (2, .int (iv la)), (3, .int (iv ca)), (4, .int (iv (n 3))), (5, .int (iv (clcB G (n 2).toNat))), (6, .int (iv 2147483647)), (7, .int (iv 1))]) (pc := 407) hx hb dL_refuses_407 hl (by decide) rfl (fun ls hl => ?_)
                                                          refine W.widen (k := 245) (n := 27084) (Nat.le_of_ble_eq_true rfl) (Nat.le_of_ble_eq_true rfl) ?_
                                                          exact hnx _ _ _ _ _ _ _ _ _ hC hE hQ _ _ _ _ rfl hP hD hS (lv_sub hl [8, 9, 10, 11, 12, 13, 14, 15, 7, 6, 5, 4, 3, 2, 1, 0] rfl)
                        · exact absurd c_162 (by decide)
                    · exact absurd c_135 (by decide)
                · exact absurd c_111 (by decide)
      · exact absurd c_37 (by decide)
    · exact absurd c_27 (by decide)
set_option maxRecDepth 100000 in
set_option maxHeartbeats 8000000 in
theorem sr_8 (l : Launch) (ε : EV) (hst : l.stackTraces = false) {x : Nat} {n : Nat → Int} {G : Nat → Nat → Int} {w : va_W} (hHw : HS ε x n G w) (pa la ca : Int) (hpa : pa = n 1) (hla : la = n 2) (hca : ca = n 4) (h3 : n 3 < 512) (hnx : SEG l ε yL_refuses cL_refuses 16 rm_A_refuses (fun v z => v = some (.int (iv 1)) ∧ z = w) 513 305 40308 [(0, .ref x), (1, .int (iv pa)), (2, .int (iv la)), (3, .int (iv ca)), (4, .int (iv (n 3))), (5, .int (iv (clcB G (n 2).toNat))), (6, .int (iv 2147483647)), (7, .int (iv 1)), (8, .int (iv ((-2147483648)))), (9, .int (iv pa)), (10, .int (iv la)), (11, .int (iv ca)), (12, .int (iv 32)), (13, .int (iv 41)), (14, .int (iv 256)), (15, .int (iv 1))] (fun z => z = w)) : SEG l ε yL_refuses cL_refuses 16 rm_A_refuses (fun v z => v = some (.int (iv 1)) ∧ z = w) 409 245 27084 [(0, .ref x), (1, .int (iv pa)), (2, .int (iv la)), (3, .int (iv ca)), (4, .int (iv (n 3))), (5, .int (iv (clcB G (n 2).toNat))), (6, .int (iv 2147483647)), (7, .int (iv 1)), (8, .int (iv ((-2147483648)))), (9, .int (iv pa)), (10, .int (iv la)), (11, .int (iv ca)), (12, .int (iv 32)), (13, .int (iv 41)), (14, .int (iv 256)), (15, .int (iv 1))] (fun z => z = w) := by
  intro p9 e9 s9 m9 a9 bl9 me9 c9 Q9 hC hE hQ H locs ls w9 hH hP hD hS hl
  have hx := hC.1
  have hb := hC.2.1
  have hK := hE.K
  subst hH
  have hH := hHw
  obtain ⟨fo, hob⟩ := hH.ob
  have hI := hH.inv
  have hN := hI.NB
  have hlp := lamp_patt hI
  refine lv_iload_n (pc := 409) hx hb dL_refuses_409 rfl (lv_at hl 1 rfl) ?_
  refine r_if_le (pc := 410) (a := pa) hx hb dL_refuses_410 (tgt := 513) (by decide) ⟨by omega, by omega⟩ (fun c_410 => ?_) (fun c_410 => ?_)
  · have c_410_ := c_410
    refine W.widen (k := 305) (n := 40308) (Nat.le_of_ble_eq_true rfl) (Nat.le_of_ble_eq_true rfl) ?_
    exact hnx _ _ _ _ _ _ _ _ _ hC hE hQ _ _ _ _ rfl hP hD hS (lv_sub hl [0, 1, 2, 3, 4, 5, 6, 7, 8, 9, 10, 11, 12, 13, 14, 15] rfl)
  · have c_410_ := c_410
    refine lv_iload (pc := 413) hx hb dL_refuses_413 (lv_at hl 15 rfl) ?_
    refine r_if_eq (pc := 415) (a := 1) hx hb dL_refuses_415 (tgt := 510) (by decide) ⟨by omega, by omega⟩ (fun c_415 => ?_) (fun c_415 => ?_)
    · exact absurd c_415 (by decide)
    · have c_415_ := c_415
      refine lv_aload_n (pc := 418) hx hb dL_refuses_418 rfl (lv_at hl 0 rfl) ?_
      refine lv_iconst (pc := 419) (v := iv 3) hx hb dL_refuses_419 rfl ?_
      refine lv_iconst (pc := 420) (v := iv 0) hx hb dL_refuses_420 rfl ?_
      refine lv_iload (pc := 421) hx hb dL_refuses_421 (lv_at hl 9 rfl) ?_
      refine lv_iconst (pc := 423) (v := iv 0) hx hb dL_refuses_423 rfl ?_
      refine c_callSW (pc := 424) (y := yL_act) (As := [.ref x, .int (iv 3), .int (iv 0), .int (iv pa), .int (iv 0)]) (rest := []) hC hE hP hD hS hl.1 (A_alike_io l ε hst hH 0 pa 0 (by decide) ⟨by omega, by omega⟩ (by decide) (by omega)) m_4_18 m_4_19 m_0_5 m_4_20 hd_yL_act rfl ⟨⟨by decide, by decide⟩, (Nat.le_of_ble_eq_true rfl), (Nat.le_of_ble_eq_true rfl)⟩ (Nat.le_of_ble_eq_true rfl) rfl dL_refuses_424 kxN (fun v w_1 H locs hq hP hD hS => ?_)
      refine W.widen (k := 247) (n := 27096) (Nat.le_of_ble_eq_true rfl) (Nat.le_of_ble_eq_true rfl) ?_
      rw [hq.2] at hP hD
      rw [hq.1]
      dsimp only [Option.toList, List.cons_append, List.nil_append]
      refine lv_bipush (pc := 427) (v := iv (-71)) hx hb dL_refuses_427 (by decide) ?_
      refine r_icmp_ne (pc := 429) (a := (-71)) (b := (-71)) hx hb dL_refuses_429 (tgt := 510) (by decide) ⟨by omega, by omega⟩ ⟨by omega, by omega⟩ (fun c_429 => ?_) (fun c_429 => ?_)
      · exact absurd c_429 (by decide)
      · have c_429_ := c_429
        refine lv_aload_n (pc := 432) hx hb dL_refuses_432 rfl (lv_at hl 0 rfl) ?_
        refine lv_iconst (pc := 433) (v := iv 4) hx hb dL_refuses_433 rfl ?_
        refine lv_iconst (pc := 434) (v := iv 0) hx hb dL_refuses_434 rfl ?_
        refine lv_iload (pc := 435) hx hb dL_refuses_435 (lv_at hl 9 rfl) ?_
        refine lv_iconst (pc := 437) (v := iv 0) hx hb dL_refuses_437 rfl ?_
        refine c_callSW (pc := 438) (y := yL_act) (As := [.ref x, .int (iv 4), .int (iv 0), .int (iv pa), .int (iv 0)]) (rest := []) hC hE hP hD hS hl.1 (A_alikes_io l ε hst hH 0 pa 0 (by decide) ⟨by omega, by omega⟩ (by decide) (by omega)) m_4_18 m_4_19 m_0_5 m_4_20 hd_yL_act rfl ⟨⟨by decide, by decide⟩, (Nat.le_of_ble_eq_true rfl), (Nat.le_of_ble_eq_true rfl)⟩ (Nat.le_of_ble_eq_true rfl) rfl dL_refuses_438 kxN (fun v w_2 H locs hq hP hD hS => ?_)
        refine W.widen (k := 249) (n := 27108) (Nat.le_of_ble_eq_true rfl) (Nat.le_of_ble_eq_true rfl) ?_
        rw [hq.2] at hP hD
        rw [hq.1]
        dsimp only [Option.toList, List.cons_append, List.nil_append]
        refine lv_bipush (pc := 441) (v := iv (-71)) hx hb dL_refuses_441 (by decide) ?_
        refine r_icmp_ne (pc := 443) (a := (-71)) (b := (-71)) hx hb dL_refuses_443 (tgt := 510) (by decide) ⟨by omega, by omega⟩ ⟨by omega, by omega⟩ (fun c_443 => ?_) (fun c_443 => ?_)
        · exact absurd c_443 (by decide)
        · have c_443_ := c_443
          refine lv_aload_n (pc := 446) hx hb dL_refuses_446 rfl (lv_at hl 0 rfl) ?_
          refine lv_iload (pc := 447) hx hb dL_refuses_447 (lv_at hl 12 rfl) ?_
          refine lv_iconst (pc := 449) (v := iv 0) hx hb dL_refuses_449 rfl ?_
          refine lv_iconst (pc := 450) (v := iv 0) hx hb dL_refuses_450 rfl ?_
          refine lv_iconst (pc := 451) (v := iv 5) hx hb dL_refuses_451 rfl ?_
          refine lv_iconst (pc := 452) (v := iv 5) hx hb dL_refuses_452 rfl ?_
          refine c_callSW (pc := 453) (y := yL_lamp) (As := [.ref x, .int (iv 32), .int (iv 0), .int (iv 0), .int (iv 5), .int (iv 5)]) (rest := []) hC hE hP hD hS hl.1 (A_lamp_ia l ε hst hH 32 0 0 5 5 (by decide) (by decide) (by decide) (by decide) (by decide) h3 (by omega)) m_14_15 m_14_16 m_0_5 m_14_17 hd_yL_lamp rfl ⟨⟨by decide, by decide⟩, (Nat.le_of_ble_eq_true rfl), (Nat.le_of_ble_eq_true rfl)⟩ (Nat.le_of_ble_eq_true rfl) rfl dL_refuses_453 kxN (fun v w_3 H locs hq hP hD hS => ?_)
          refine W.widen (k := 263) (n := 30408) (Nat.le_of_ble_eq_true rfl) (Nat.le_of_ble_eq_true rfl) ?_
          rw [hq.2] at hP hD
          rw [hq.1]
          dsimp only [Option.toList, List.cons_append, List.nil_append]
          refine lv_bipush (pc := 456) (v := iv (-72)) hx hb dL_refuses_456 (by decide) ?_
          refine r_icmp_ne (pc := 458) (a := (-72)) (b := (-72)) hx hb dL_refuses_458 (tgt := 510) (by decide) ⟨by omega, by omega⟩ ⟨by omega, by omega⟩ (fun c_458 => ?_) (fun c_458 => ?_)
          · exact absurd c_458 (by decide)
          · have c_458_ := c_458
            refine lv_aload_n (pc := 461) hx hb dL_refuses_461 rfl (lv_at hl 0 rfl) ?_
            refine lv_iconst (pc := 462) (v := iv 0) hx hb dL_refuses_462 rfl ?_
            refine lv_iload (pc := 463) hx hb dL_refuses_463 (lv_at hl 12 rfl) ?_
            refine lv_iconst (pc := 465) (v := iv 0) hx hb dL_refuses_465 rfl ?_
            refine lv_iconst (pc := 466) (v := iv 5) hx hb dL_refuses_466 rfl ?_
            refine lv_iconst (pc := 467) (v := iv 5) hx hb dL_refuses_467 rfl ?_
            refine c_callSW (pc := 468) (y := yL_lamp) (As := [.ref x, .int (iv 0), .int (iv 32), .int (iv 0), .int (iv 5), .int (iv 5)]) (rest := []) hC hE hP hD hS hl.1 (A_lamp_ia l ε hst hH 0 32 0 5 5 (by decide) (by decide) (by decide) (by decide) (by decide) h3 (by omega)) m_14_15 m_14_16 m_0_5 m_14_17 hd_yL_lamp rfl ⟨⟨by decide, by decide⟩, (Nat.le_of_ble_eq_true rfl), (Nat.le_of_ble_eq_true rfl)⟩ (Nat.le_of_ble_eq_true rfl) rfl dL_refuses_468 kxN (fun v w_4 H locs hq hP hD hS => ?_)
            refine W.widen (k := 277) (n := 33708) (Nat.le_of_ble_eq_true rfl) (Nat.le_of_ble_eq_true rfl) ?_
            rw [hq.2] at hP hD
            rw [hq.1]
            dsimp only [Option.toList, List.cons_append, List.nil_append]
            refine lv_bipush (pc := 471) (v := iv (-72)) hx hb dL_refuses_471 (by decide) ?_
            refine r_icmp_ne (pc := 473) (a := (-72)) (b := (-72)) hx hb dL_refuses_473 (tgt := 510) (by decide) ⟨by omega, by omega⟩ ⟨by omega, by omega⟩ (fun c_473 => ?_) (fun c_473 => ?_)
            · exact absurd c_473 (by decide)
            · have c_473_ := c_473
              refine lv_aload_n (pc := 476) hx hb dL_refuses_476 rfl (lv_at hl 0 rfl) ?_
              refine lv_iconst (pc := 477) (v := iv 0) hx hb dL_refuses_477 rfl ?_
              refine lv_iconst (pc := 478) (v := iv 0) hx hb dL_refuses_478 rfl ?_
              refine lv_iconst (pc := 479) (v := iv 0) hx hb dL_refuses_479 rfl ?_
              refine lv_iload (pc := 480) hx hb dL_refuses_480 (lv_at hl 13 rfl) ?_
              refine lv_iconst (pc := 482) (v := iv 5) hx hb dL_refuses_482 rfl ?_
              refine c_callSW (pc := 483) (y := yL_lamp) (As := [.ref x, .int (iv 0), .int (iv 0), .int (iv 0), .int (iv 41), .int (iv 5)]) (rest := []) hC hE hP hD hS hl.1 (A_lamp_ia l ε hst hH 0 0 0 41 5 (by decide) (by decide) (by decide) (by decide) (by decide) h3 (by omega)) m_14_15 m_14_16 m_0_5 m_14_17 hd_yL_lamp rfl ⟨⟨by decide, by decide⟩, (Nat.le_of_ble_eq_true rfl), (Nat.le_of_ble_eq_true rfl)⟩ (Nat.le_of_ble_eq_true rfl) rfl dL_refuses_483 kxN (fun v w_5 H locs hq hP hD hS => ?_)
              refine W.widen (k := 291) (n := 37008) (Nat.le_of_ble_eq_true rfl) (Nat.le_of_ble_eq_true rfl) ?_
              rw [hq.2] at hP hD
              rw [hq.1]
              dsimp only [Option.toList, List.cons_append, List.nil_append]
              refine lv_bipush (pc := 486) (v := iv (-72)) hx hb dL_refuses_486 (by decide) ?_
              refine r_icmp_ne (pc := 488) (a := (-72)) (b := (-72)) hx hb dL_refuses_488 (tgt := 510) (by decide) ⟨by omega, by omega⟩ ⟨by omega, by omega⟩ (fun c_488 => ?_) (fun c_488 => ?_)
              · exact absurd c_488 (by decide)
              · have c_488_ := c_488
                refine lv_aload_n (pc := 491) hx hb dL_refuses_491 rfl (lv_at hl 0 rfl) ?_
                refine lv_iconst (pc := 492) (v := iv 0) hx hb dL_refuses_492 rfl ?_
                refine lv_iconst (pc := 493) (v := iv 0) hx hb dL_refuses_493 rfl ?_
                refine lv_iconst (pc := 494) (v := iv 0) hx hb dL_refuses_494 rfl ?_
                refine lv_iconst (pc := 495) (v := iv 5) hx hb dL_refuses_495 rfl ?_
                refine lv_iload (pc := 496) hx hb dL_refuses_496 (lv_at hl 14 rfl) ?_
                refine c_callSW (pc := 498) (y := yL_lamp) (As := [.ref x, .int (iv 0), .int (iv 0), .int (iv 0), .int (iv 5), .int (iv 256)]) (rest := []) hC hE hP hD hS hl.1 (A_lamp_ia l ε hst hH 0 0 0 5 256 (by decide) (by decide) (by decide) (by decide) (by decide) h3 (by omega)) m_14_15 m_14_16 m_0_5 m_14_17 hd_yL_lamp rfl ⟨⟨by decide, by decide⟩, (Nat.le_of_ble_eq_true rfl), (Nat.le_of_ble_eq_true rfl)⟩ (Nat.le_of_ble_eq_true rfl) rfl dL_refuses_498 kxN (fun v w_6 H locs hq hP hD hS => ?_)
                refine W.widen (k := 305) (n := 40308) (Nat.le_of_ble_eq_true rfl) (Nat.le_of_ble_eq_true rfl) ?_
                rw [hq.2] at hP hD
                rw [hq.1]
                dsimp only [Option.toList, List.cons_append, List.nil_append]
                refine lv_bipush (pc := 501) (v := iv (-72)) hx hb dL_refuses_501 (by decide) ?_
                refine r_icmp_ne (pc := 503) (a := (-72)) (b := (-72)) hx hb dL_refuses_503 (tgt := 510) (by decide) ⟨by omega, by omega⟩ ⟨by omega, by omega⟩ (fun c_503 => ?_) (fun c_503 => ?_)
                · exact absurd c_503 (by decide)
                · have c_503_ := c_503
                  refine lv_iconst (pc := 506) (v := iv 1) hx hb dL_refuses_506 rfl ?_
                  refine lv_goto (pc := 507) (tgt := 511) hx hb dL_refuses_507 (by decide) ?_
                  refine lv_istore (lv' := [(15, .int (iv 1)), (0, .ref x), (1, .int (iv pa)), (2, .int (iv la)), (3, .int (iv ca)), (4, .int (iv (n 3))), (5, .int (iv (clcB G (n 2).toNat))), (6, .int (iv 2147483647)), (7, .int (iv 1)), (8, .int (iv ((-2147483648)))), (9, .int (iv pa)), (10, .int (iv la)), (11, .int (iv ca)), (12, .int (iv 32)), (13, .int (iv 41)), (14, .int (iv 256))]) (pc := 511) hx hb dL_refuses_511 hl (by decide) rfl (fun ls hl => ?_)
                  refine W.widen (k := 305) (n := 40308) (Nat.le_of_ble_eq_true rfl) (Nat.le_of_ble_eq_true rfl) ?_
                  exact hnx _ _ _ _ _ _ _ _ _ hC hE hQ _ _ _ _ rfl hP hD hS (lv_sub hl [1, 2, 3, 4, 5, 6, 7, 8, 9, 10, 11, 12, 13, 14, 15, 0] rfl)
set_option maxRecDepth 100000 in
set_option maxHeartbeats 8000000 in
theorem sr_9 (l : Launch) (ε : EV) (hst : l.stackTraces = false) {x : Nat} {n : Nat → Int} {G : Nat → Nat → Int} {w : va_W} (hHw : HS ε x n G w) (pa la ca : Int) (hpa : pa = n 1) (hla : la = n 2) (hca : ca = n 4) (h3 : n 3 < 512) (hnx : SEG l ε yL_refuses cL_refuses 16 rm_A_refuses (fun v z => v = some (.int (iv 1)) ∧ z = w) 669 337 42604 [(0, .ref x), (1, .int (iv pa)), (2, .int (iv la)), (3, .int (iv ca)), (4, .int (iv (n 3))), (5, .int (iv (clcB G (n 2).toNat))), (6, .int (iv 2147483647)), (7, .int (iv 1)), (8, .int (iv ((-2147483648)))), (9, .int (iv pa)), (10, .int (iv la)), (11, .int (iv ca)), (12, .int (iv 32)), (13, .int (iv 41)), (14, .int (iv 256)), (15, .int (iv 1))] (fun z => z = w)) : SEG l ε yL_refuses cL_refuses 16 rm_A_refuses (fun v z => v = some (.int (iv 1)) ∧ z = w) 513 305 40308 [(0, .ref x), (1, .int (iv pa)), (2, .int (iv la)), (3, .int (iv ca)), (4, .int (iv (n 3))), (5, .int (iv (clcB G (n 2).toNat))), (6, .int (iv 2147483647)), (7, .int (iv 1)), (8, .int (iv ((-2147483648)))), (9, .int (iv pa)), (10, .int (iv la)), (11, .int (iv ca)), (12, .int (iv 32)), (13, .int (iv 41)), (14, .int (iv 256)), (15, .int (iv 1))] (fun z => z = w) := by
  intro p9 e9 s9 m9 a9 bl9 me9 c9 Q9 hC hE hQ H locs ls w9 hH hP hD hS hl
  have hx := hC.1
  have hb := hC.2.1
  have hK := hE.K
  subst hH
  have hH := hHw
  obtain ⟨fo, hob⟩ := hH.ob
  have hI := hH.inv
  have hN := hI.NB
  have hlp := lamp_patt hI
  refine lv_iload_n (pc := 513) hx hb dL_refuses_513 rfl (lv_at hl 2 rfl) ?_
  refine r_if_le (pc := 514) (a := la) hx hb dL_refuses_514 (tgt := 669) (by decide) ⟨by omega, by omega⟩ (fun c_514 => ?_) (fun c_514 => ?_)
  · have c_514_ := c_514
    refine W.widen (k := 337) (n := 42604) (Nat.le_of_ble_eq_true rfl) (Nat.le_of_ble_eq_true rfl) ?_
    exact hnx _ _ _ _ _ _ _ _ _ hC hE hQ _ _ _ _ rfl hP hD hS (lv_sub hl [0, 1, 2, 3, 4, 5, 6, 7, 8, 9, 10, 11, 12, 13, 14, 15] rfl)
  · have c_514_ := c_514
    refine lv_iload (pc := 517) hx hb dL_refuses_517 (lv_at hl 15 rfl) ?_
    refine r_if_eq (pc := 519) (a := 1) hx hb dL_refuses_519 (tgt := 666) (by decide) ⟨by omega, by omega⟩ (fun c_519 => ?_) (fun c_519 => ?_)
    · exact absurd c_519 (by decide)
    · have c_519_ := c_519
      refine lv_aload_n (pc := 522) hx hb dL_refuses_522 rfl (lv_at hl 0 rfl) ?_
      refine lv_iconst (pc := 523) (v := iv 5) hx hb dL_refuses_523 rfl ?_
      refine lv_iconst (pc := 524) (v := iv 0) hx hb dL_refuses_524 rfl ?_
      refine lv_iload (pc := 525) hx hb dL_refuses_525 (lv_at hl 9 rfl) ?_
      refine lv_iconst (pc := 527) (v := iv (-1)) hx hb dL_refuses_527 rfl ?_
      refine c_callSW (pc := 528) (y := yL_act) (As := [.ref x, .int (iv 5), .int (iv 0), .int (iv pa), .int (iv ((-1)))]) (rest := []) hC hE hP hD hS hl.1 (A_change_io l ε hst hH 0 pa ((-1)) (by decide) ⟨by omega, by omega⟩ (by decide) h3 (by omega)) m_4_18 m_4_19 m_0_5 m_4_20 hd_yL_act rfl ⟨⟨by decide, by decide⟩, (Nat.le_of_ble_eq_true rfl), (Nat.le_of_ble_eq_true rfl)⟩ (Nat.le_of_ble_eq_true rfl) rfl dL_refuses_528 kxN (fun v w_1 H locs hq hP hD hS => ?_)
      refine W.widen (k := 313) (n := 41408) (Nat.le_of_ble_eq_true rfl) (Nat.le_of_ble_eq_true rfl) ?_
      rw [hq.2] at hP hD
      rw [hq.1]
      dsimp only [Option.toList, List.cons_append, List.nil_append]
      refine lv_bipush (pc := 531) (v := iv (-71)) hx hb dL_refuses_531 (by decide) ?_
      refine r_icmp_ne (pc := 533) (a := (-71)) (b := (-71)) hx hb dL_refuses_533 (tgt := 666) (by decide) ⟨by omega, by omega⟩ ⟨by omega, by omega⟩ (fun c_533 => ?_) (fun c_533 => ?_)
      · exact absurd c_533 (by decide)
      · have c_533_ := c_533
        refine lv_aload_n (pc := 536) hx hb dL_refuses_536 rfl (lv_at hl 0 rfl) ?_
        refine lv_iconst (pc := 537) (v := iv 5) hx hb dL_refuses_537 rfl ?_
        refine lv_iconst (pc := 538) (v := iv 0) hx hb dL_refuses_538 rfl ?_
        refine lv_iconst (pc := 539) (v := iv 0) hx hb dL_refuses_539 rfl ?_
        refine lv_iload (pc := 540) hx hb dL_refuses_540 (lv_at hl 7 rfl) ?_
        refine lv_iconst (pc := 542) (v := iv 1) hx hb dL_refuses_542 rfl ?_
        refine r_icmp_ne (pc := 543) (a := 1) (b := 1) hx hb dL_refuses_543 (tgt := 551) (by decide) ⟨by omega, by omega⟩ ⟨by omega, by omega⟩ (fun c_543 => ?_) (fun c_543 => ?_)
        · exact absurd c_543 (by decide)
        · have c_543_ := c_543
          refine lv_bipush (pc := 546) (v := iv 60) hx hb dL_refuses_546 (by decide) ?_
          refine lv_goto (pc := 548) (tgt := 553) hx hb dL_refuses_548 (by decide) ?_
          refine c_callSW (pc := 553) (y := yL_act) (As := [.ref x, .int (iv 5), .int (iv 0), .int (iv 0), .int (iv 60)]) (rest := []) hC hE hP hD hS hl.1 (A_change_ia l ε hst hH 0 0 60 (by decide) (by decide) (by decide) h3 (by omega)) m_4_18 m_4_19 m_0_5 m_4_20 hd_yL_act rfl ⟨⟨by decide, by decide⟩, (Nat.le_of_ble_eq_true rfl), (Nat.le_of_ble_eq_true rfl)⟩ (Nat.le_of_ble_eq_true rfl) rfl dL_refuses_553 kxN (fun v w_2 H locs hq hP hD hS => ?_)
          refine W.widen (k := 321) (n := 42508) (Nat.le_of_ble_eq_true rfl) (Nat.le_of_ble_eq_true rfl) ?_
          rw [hq.2] at hP hD
          rw [hq.1]
          dsimp only [Option.toList, List.cons_append, List.nil_append]
          refine lv_bipush (pc := 556) (v := iv (-72)) hx hb dL_refuses_556 (by decide) ?_
          refine r_icmp_ne (pc := 558) (a := (-72)) (b := (-72)) hx hb dL_refuses_558 (tgt := 666) (by decide) ⟨by omega, by omega⟩ ⟨by omega, by omega⟩ (fun c_558 => ?_) (fun c_558 => ?_)
          · exact absurd c_558 (by decide)
          · have c_558_ := c_558
            refine lv_aload_n (pc := 561) hx hb dL_refuses_561 rfl (lv_at hl 0 rfl) ?_
            refine lv_bipush (pc := 562) (v := iv 7) hx hb dL_refuses_562 (by decide) ?_
            refine lv_iconst (pc := 564) (v := iv 0) hx hb dL_refuses_564 rfl ?_
            refine lv_iload (pc := 565) hx hb dL_refuses_565 (lv_at hl 7 rfl) ?_
            refine lv_iconst (pc := 567) (v := iv 1) hx hb dL_refuses_567 rfl ?_
            refine r_icmp_ne (pc := 568) (a := 1) (b := 1) hx hb dL_refuses_568 (tgt := 576) (by decide) ⟨by omega, by omega⟩ ⟨by omega, by omega⟩ (fun c_568 => ?_) (fun c_568 => ?_)
            · exact absurd c_568 (by decide)
            · have c_568_ := c_568
              refine lv_ldc (pc := 571) (own := RL) (v := iv 100001) hx hb hC.2.2.2.1 (by rw [show iv 100001 = (100001 : Int32) by decide]; exact hC.2.2.2.2.1 _ m_1_23) dL_refuses_571 ?_
              refine lv_goto (pc := 573) (tgt := 578) hx hb dL_refuses_573 (by decide) ?_
              refine lv_iconst (pc := 578) (v := iv 0) hx hb dL_refuses_578 rfl ?_
              refine c_callSW (pc := 579) (y := yL_act) (As := [.ref x, .int (iv 7), .int (iv 0), .int (iv 100001), .int (iv 0)]) (rest := []) hC hE hP hD hS hl.1 (A_shines_ia l ε hst hH 0 100001 0 (by decide) (by decide) (by decide) (by omega)) m_4_18 m_4_19 m_0_5 m_4_20 hd_yL_act rfl ⟨⟨by decide, by decide⟩, (Nat.le_of_ble_eq_true rfl), (Nat.le_of_ble_eq_true rfl)⟩ (Nat.le_of_ble_eq_true rfl) rfl dL_refuses_579 kxN (fun v w_3 H locs hq hP hD hS => ?_)
              refine W.widen (k := 323) (n := 42520) (Nat.le_of_ble_eq_true rfl) (Nat.le_of_ble_eq_true rfl) ?_
              rw [hq.2] at hP hD
              rw [hq.1]
              dsimp only [Option.toList, List.cons_append, List.nil_append]
              refine lv_bipush (pc := 582) (v := iv (-72)) hx hb dL_refuses_582 (by decide) ?_
              refine r_icmp_ne (pc := 584) (a := (-72)) (b := (-72)) hx hb dL_refuses_584 (tgt := 666) (by decide) ⟨by omega, by omega⟩ ⟨by omega, by omega⟩ (fun c_584 => ?_) (fun c_584 => ?_)
              · exact absurd c_584 (by decide)
              · have c_584_ := c_584
                refine lv_aload_n (pc := 587) hx hb dL_refuses_587 rfl (lv_at hl 0 rfl) ?_
                refine lv_bipush (pc := 588) (v := iv 8) hx hb dL_refuses_588 (by decide) ?_
                refine lv_iconst (pc := 590) (v := iv 0) hx hb dL_refuses_590 rfl ?_
                refine lv_iload (pc := 591) hx hb dL_refuses_591 (lv_at hl 12 rfl) ?_
                refine lv_iconst (pc := 593) (v := iv 0) hx hb dL_refuses_593 rfl ?_
                refine c_callSW (pc := 594) (y := yL_act) (As := [.ref x, .int (iv 8), .int (iv 0), .int (iv 32), .int (iv 0)]) (rest := []) hC hE hP hD hS hl.1 (A_sector_ia l ε hst hH 0 32 0 (by decide) (by decide) (by decide) (by omega)) m_4_18 m_4_19 m_0_5 m_4_20 hd_yL_act rfl ⟨⟨by decide, by decide⟩, (Nat.le_of_ble_eq_true rfl), (Nat.le_of_ble_eq_true rfl)⟩ (Nat.le_of_ble_eq_true rfl) rfl dL_refuses_594 kxN (fun v w_4 H locs hq hP hD hS => ?_)
                refine W.widen (k := 326) (n := 42538) (Nat.le_of_ble_eq_true rfl) (Nat.le_of_ble_eq_true rfl) ?_
                rw [hq.2] at hP hD
                rw [hq.1]
                dsimp only [Option.toList, List.cons_append, List.nil_append]
                refine lv_bipush (pc := 597) (v := iv (-72)) hx hb dL_refuses_597 (by decide) ?_
                refine r_icmp_ne (pc := 599) (a := (-72)) (b := (-72)) hx hb dL_refuses_599 (tgt := 666) (by decide) ⟨by omega, by omega⟩ ⟨by omega, by omega⟩ (fun c_599 => ?_) (fun c_599 => ?_)
                · exact absurd c_599 (by decide)
                · have c_599_ := c_599
                  refine lv_aload_n (pc := 602) hx hb dL_refuses_602 rfl (lv_at hl 0 rfl) ?_
                  refine lv_bipush (pc := 603) (v := iv 8) hx hb dL_refuses_603 (by decide) ?_
                  refine lv_iconst (pc := 605) (v := iv 0) hx hb dL_refuses_605 rfl ?_
                  refine lv_iconst (pc := 606) (v := iv 0) hx hb dL_refuses_606 rfl ?_
                  refine lv_iload (pc := 607) hx hb dL_refuses_607 (lv_at hl 12 rfl) ?_
                  refine c_callSW (pc := 609) (y := yL_act) (As := [.ref x, .int (iv 8), .int (iv 0), .int (iv 0), .int (iv 32)]) (rest := []) hC hE hP hD hS hl.1 (A_sector_ia l ε hst hH 0 0 32 (by decide) (by decide) (by decide) (by omega)) m_4_18 m_4_19 m_0_5 m_4_20 hd_yL_act rfl ⟨⟨by decide, by decide⟩, (Nat.le_of_ble_eq_true rfl), (Nat.le_of_ble_eq_true rfl)⟩ (Nat.le_of_ble_eq_true rfl) rfl dL_refuses_609 kxN (fun v w_5 H locs hq hP hD hS => ?_)
                  refine W.widen (k := 329) (n := 42556) (Nat.le_of_ble_eq_true rfl) (Nat.le_of_ble_eq_true rfl) ?_
                  rw [hq.2] at hP hD
                  rw [hq.1]
                  dsimp only [Option.toList, List.cons_append, List.nil_append]
                  refine lv_bipush (pc := 612) (v := iv (-72)) hx hb dL_refuses_612 (by decide) ?_
                  refine r_icmp_ne (pc := 614) (a := (-72)) (b := (-72)) hx hb dL_refuses_614 (tgt := 666) (by decide) ⟨by omega, by omega⟩ ⟨by omega, by omega⟩ (fun c_614 => ?_) (fun c_614 => ?_)
                  · exact absurd c_614 (by decide)
                  · have c_614_ := c_614
                    refine lv_aload_n (pc := 617) hx hb dL_refuses_617 rfl (lv_at hl 0 rfl) ?_
                    refine lv_bipush (pc := 618) (v := iv 9) hx hb dL_refuses_618 (by decide) ?_
                    refine lv_iconst (pc := 620) (v := iv 0) hx hb dL_refuses_620 rfl ?_
                    refine lv_iload (pc := 621) hx hb dL_refuses_621 (lv_at hl 12 rfl) ?_
                    refine lv_iconst (pc := 623) (v := iv 0) hx hb dL_refuses_623 rfl ?_
                    refine c_callSW (pc := 624) (y := yL_act) (As := [.ref x, .int (iv 9), .int (iv 0), .int (iv 32), .int (iv 0)]) (rest := []) hC hE hP hD hS hl.1 (A_isSeen_ia l ε hst hH 0 32 0 (by decide) (by decide) (by decide) (by omega)) m_4_18 m_4_19 m_0_5 m_4_20 hd_yL_act rfl ⟨⟨by decide, by decide⟩, (Nat.le_of_ble_eq_true rfl), (Nat.le_of_ble_eq_true rfl)⟩ (Nat.le_of_ble_eq_true rfl) rfl dL_refuses_624 kxN (fun v w_6 H locs hq hP hD hS => ?_)
                    refine W.widen (k := 332) (n := 42574) (Nat.le_of_ble_eq_true rfl) (Nat.le_of_ble_eq_true rfl) ?_
                    rw [hq.2] at hP hD
                    rw [hq.1]
                    dsimp only [Option.toList, List.cons_append, List.nil_append]
                    refine lv_bipush (pc := 627) (v := iv (-72)) hx hb dL_refuses_627 (by decide) ?_
                    refine r_icmp_ne (pc := 629) (a := (-72)) (b := (-72)) hx hb dL_refuses_629 (tgt := 666) (by decide) ⟨by omega, by omega⟩ ⟨by omega, by omega⟩ (fun c_629 => ?_) (fun c_629 => ?_)
                    · exact absurd c_629 (by decide)
                    · have c_629_ := c_629
                      refine lv_aload_n (pc := 632) hx hb dL_refuses_632 rfl (lv_at hl 0 rfl) ?_
                      refine lv_bipush (pc := 633) (v := iv 9) hx hb dL_refuses_633 (by decide) ?_
                      refine lv_iconst (pc := 635) (v := iv 0) hx hb dL_refuses_635 rfl ?_
                      refine lv_iconst (pc := 636) (v := iv 0) hx hb dL_refuses_636 rfl ?_
                      refine lv_iload (pc := 637) hx hb dL_refuses_637 (lv_at hl 12 rfl) ?_
                      refine c_callSW (pc := 639) (y := yL_act) (As := [.ref x, .int (iv 9), .int (iv 0), .int (iv 0), .int (iv 32)]) (rest := []) hC hE hP hD hS hl.1 (A_isSeen_ia l ε hst hH 0 0 32 (by decide) (by decide) (by decide) (by omega)) m_4_18 m_4_19 m_0_5 m_4_20 hd_yL_act rfl ⟨⟨by decide, by decide⟩, (Nat.le_of_ble_eq_true rfl), (Nat.le_of_ble_eq_true rfl)⟩ (Nat.le_of_ble_eq_true rfl) rfl dL_refuses_639 kxN (fun v w_7 H locs hq hP hD hS => ?_)
                      refine W.widen (k := 335) (n := 42592) (Nat.le_of_ble_eq_true rfl) (Nat.le_of_ble_eq_true rfl) ?_
                      rw [hq.2] at hP hD
                      rw [hq.1]
                      dsimp only [Option.toList, List.cons_append, List.nil_append]
                      refine lv_bipush (pc := 642) (v := iv (-72)) hx hb dL_refuses_642 (by decide) ?_
                      refine r_icmp_ne (pc := 644) (a := (-72)) (b := (-72)) hx hb dL_refuses_644 (tgt := 666) (by decide) ⟨by omega, by omega⟩ ⟨by omega, by omega⟩ (fun c_644 => ?_) (fun c_644 => ?_)
                      · exact absurd c_644 (by decide)
                      · have c_644_ := c_644
                        refine lv_aload_n (pc := 647) hx hb dL_refuses_647 rfl (lv_at hl 0 rfl) ?_
                        refine lv_bipush (pc := 648) (v := iv 10) hx hb dL_refuses_648 (by decide) ?_
                        refine lv_iconst (pc := 650) (v := iv 0) hx hb dL_refuses_650 rfl ?_
                        refine lv_iload (pc := 651) hx hb dL_refuses_651 (lv_at hl 10 rfl) ?_
                        refine lv_iconst (pc := 653) (v := iv 0) hx hb dL_refuses_653 rfl ?_
                        refine c_callSW (pc := 654) (y := yL_act) (As := [.ref x, .int (iv 10), .int (iv 0), .int (iv la), .int (iv 0)]) (rest := []) hC hE hP hD hS hl.1 (A_common_io l ε hst hH 0 la 0 (by decide) ⟨by omega, by omega⟩ (by decide) (by omega)) m_4_18 m_4_19 m_0_5 m_4_20 hd_yL_act rfl ⟨⟨by decide, by decide⟩, (Nat.le_of_ble_eq_true rfl), (Nat.le_of_ble_eq_true rfl)⟩ (Nat.le_of_ble_eq_true rfl) rfl dL_refuses_654 kxN (fun v w_8 H locs hq hP hD hS => ?_)
                        refine W.widen (k := 337) (n := 42604) (Nat.le_of_ble_eq_true rfl) (Nat.le_of_ble_eq_true rfl) ?_
                        rw [hq.2] at hP hD
                        rw [hq.1]
                        dsimp only [Option.toList, List.cons_append, List.nil_append]
                        refine lv_bipush (pc := 657) (v := iv (-71)) hx hb dL_refuses_657 (by decide) ?_
                        refine r_icmp_ne (pc := 659) (a := (-71)) (b := (-71)) hx hb dL_refuses_659 (tgt := 666) (by decide) ⟨by omega, by omega⟩ ⟨by omega, by omega⟩ (fun c_659 => ?_) (fun c_659 => ?_)
                        · exact absurd c_659 (by decide)
                        · have c_659_ := c_659
                          refine lv_iconst (pc := 662) (v := iv 1) hx hb dL_refuses_662 rfl ?_
                          refine lv_goto (pc := 663) (tgt := 667) hx hb dL_refuses_663 (by decide) ?_
                          refine lv_istore (lv' := [(15, .int (iv 1)), (0, .ref x), (1, .int (iv pa)), (2, .int (iv la)), (3, .int (iv ca)), (4, .int (iv (n 3))), (5, .int (iv (clcB G (n 2).toNat))), (6, .int (iv 2147483647)), (7, .int (iv 1)), (8, .int (iv ((-2147483648)))), (9, .int (iv pa)), (10, .int (iv la)), (11, .int (iv ca)), (12, .int (iv 32)), (13, .int (iv 41)), (14, .int (iv 256))]) (pc := 667) hx hb dL_refuses_667 hl (by decide) rfl (fun ls hl => ?_)
                          refine W.widen (k := 337) (n := 42604) (Nat.le_of_ble_eq_true rfl) (Nat.le_of_ble_eq_true rfl) ?_
                          exact hnx _ _ _ _ _ _ _ _ _ hC hE hQ _ _ _ _ rfl hP hD hS (lv_sub hl [1, 2, 3, 4, 5, 6, 7, 8, 9, 10, 11, 12, 13, 14, 15, 0] rfl)
set_option maxRecDepth 100000 in
set_option maxHeartbeats 8000000 in
theorem sr_10 (l : Launch) (ε : EV) (hst : l.stackTraces = false) {x : Nat} {n : Nat → Int} {G : Nat → Nat → Int} {w : va_W} (hHw : HS ε x n G w) (pa la ca : Int) (hpa : pa = n 1) (hla : la = n 2) (hca : ca = n 4) (h3 : n 3 < 512) (hnx : SEG l ε yL_refuses cL_refuses 16 rm_A_refuses (fun v z => v = some (.int (iv 1)) ∧ z = w) 751 348 42672 [(0, .ref x), (1, .int (iv pa)), (2, .int (iv la)), (3, .int (iv ca)), (4, .int (iv (n 3))), (5, .int (iv (clcB G (n 2).toNat))), (6, .int (iv 2147483647)), (7, .int (iv 1)), (8, .int (iv ((-2147483648)))), (9, .int (iv pa)), (10, .int (iv la)), (11, .int (iv ca)), (12, .int (iv 32)), (13, .int (iv 41)), (14, .int (iv 256)), (15, .int (iv 1))] (fun z => z = w)) : SEG l ε yL_refuses cL_refuses 16 rm_A_refuses (fun v z => v = some (.int (iv 1)) ∧ z = w) 669 337 42604 [(0, .ref x), (1, .int (iv pa)), (2, .int (iv la)), (3, .int (iv ca)), (4, .int (iv (n 3))), (5, .int (iv (clcB G (n 2).toNat))), (6, .int (iv 2147483647)), (7, .int (iv 1)), (8, .int (iv ((-2147483648)))), (9, .int (iv pa)), (10, .int (iv la)), (11, .int (iv ca)), (12, .int (iv 32)), (13, .int (iv 41)), (14, .int (iv 256)), (15, .int (iv 1))] (fun z => z = w) := by
  intro p9 e9 s9 m9 a9 bl9 me9 c9 Q9 hC hE hQ H locs ls w9 hH hP hD hS hl
  have hx := hC.1
  have hb := hC.2.1
  have hK := hE.K
  subst hH
  have hH := hHw
  obtain ⟨fo, hob⟩ := hH.ob
  have hI := hH.inv
  have hN := hI.NB
  have hlp := lamp_patt hI
  refine lv_iload_n (pc := 669) hx hb dL_refuses_669 rfl (lv_at hl 3 rfl) ?_
  refine r_if_le (pc := 670) (a := ca) hx hb dL_refuses_670 (tgt := 751) (by decide) ⟨by omega, by omega⟩ (fun c_670 => ?_) (fun c_670 => ?_)
  · have c_670_ := c_670
    refine W.widen (k := 348) (n := 42672) (Nat.le_of_ble_eq_true rfl) (Nat.le_of_ble_eq_true rfl) ?_
    exact hnx _ _ _ _ _ _ _ _ _ hC hE hQ _ _ _ _ rfl hP hD hS (lv_sub hl [0, 1, 2, 3, 4, 5, 6, 7, 8, 9, 10, 11, 12, 13, 14, 15] rfl)
  · have c_670_ := c_670
    refine lv_iload (pc := 673) hx hb dL_refuses_673 (lv_at hl 15 rfl) ?_
    refine r_if_eq (pc := 675) (a := 1) hx hb dL_refuses_675 (tgt := 748) (by decide) ⟨by omega, by omega⟩ (fun c_675 => ?_) (fun c_675 => ?_)
    · exact absurd c_675 (by decide)
    · have c_675_ := c_675
      refine lv_aload_n (pc := 678) hx hb dL_refuses_678 rfl (lv_at hl 0 rfl) ?_
      refine lv_bipush (pc := 679) (v := iv 12) hx hb dL_refuses_679 (by decide) ?_
      refine lv_iconst (pc := 681) (v := iv 0) hx hb dL_refuses_681 rfl ?_
      refine lv_iload (pc := 682) hx hb dL_refuses_682 (lv_at hl 7 rfl) ?_
      refine r_if_ne (pc := 684) (a := 1) hx hb dL_refuses_684 (tgt := 691) (by decide) ⟨by omega, by omega⟩ (fun c_684 => ?_) (fun c_684 => ?_)
      · have c_684_ := c_684
        refine lv_iload (pc := 691) hx hb dL_refuses_691 (lv_at hl 7 rfl) ?_
        refine lv_iconst (pc := 693) (v := iv 1) hx hb dL_refuses_693 rfl ?_
        refine r_icmp_ne (pc := 694) (a := 1) (b := 1) hx hb dL_refuses_694 (tgt := 702) (by decide) ⟨by omega, by omega⟩ ⟨by omega, by omega⟩ (fun c_694 => ?_) (fun c_694 => ?_)
        · exact absurd c_694 (by decide)
        · have c_694_ := c_694
          refine lv_bipush (pc := 697) (v := iv 101) hx hb dL_refuses_697 (by decide) ?_
          refine lv_goto (pc := 699) (tgt := 704) hx hb dL_refuses_699 (by decide) ?_
          refine lv_iconst (pc := 704) (v := iv 0) hx hb dL_refuses_704 rfl ?_
          refine c_callSW (pc := 705) (y := yL_act) (As := [.ref x, .int (iv 12), .int (iv 0), .int (iv 101), .int (iv 0)]) (rest := []) hC hE hP hD hS hl.1 (A_correct_ia l ε hst hH 0 101 0 (by decide) (by decide) (by decide) (by omega)) m_4_18 m_4_19 m_0_5 m_4_20 hd_yL_act rfl ⟨⟨by decide, by decide⟩, (Nat.le_of_ble_eq_true rfl), (Nat.le_of_ble_eq_true rfl)⟩ (Nat.le_of_ble_eq_true rfl) rfl dL_refuses_705 kxN (fun v w_1 H locs hq hP hD hS => ?_)
          refine W.widen (k := 340) (n := 42624) (Nat.le_of_ble_eq_true rfl) (Nat.le_of_ble_eq_true rfl) ?_
          rw [hq.2] at hP hD
          rw [hq.1]
          dsimp only [Option.toList, List.cons_append, List.nil_append]
          refine lv_bipush (pc := 708) (v := iv (-72)) hx hb dL_refuses_708 (by decide) ?_
          refine r_icmp_ne (pc := 710) (a := (-72)) (b := (-72)) hx hb dL_refuses_710 (tgt := 748) (by decide) ⟨by omega, by omega⟩ ⟨by omega, by omega⟩ (fun c_710 => ?_) (fun c_710 => ?_)
          · exact absurd c_710 (by decide)
          · have c_710_ := c_710
            refine lv_aload_n (pc := 713) hx hb dL_refuses_713 rfl (lv_at hl 0 rfl) ?_
            refine lv_bipush (pc := 714) (v := iv 14) hx hb dL_refuses_714 (by decide) ?_
            refine lv_iconst (pc := 716) (v := iv 0) hx hb dL_refuses_716 rfl ?_
            refine lv_iload (pc := 717) hx hb dL_refuses_717 (lv_at hl 10 rfl) ?_
            refine lv_iconst (pc := 719) (v := iv 0) hx hb dL_refuses_719 rfl ?_
            refine c_callSW (pc := 720) (y := yL_act) (As := [.ref x, .int (iv 14), .int (iv 0), .int (iv la), .int (iv 0)]) (rest := []) hC hE hP hD hS hl.1 (A_shown_io l ε hst hH 0 la 0 (by decide) ⟨by omega, by omega⟩ (by decide) (by omega)) m_4_18 m_4_19 m_0_5 m_4_20 hd_yL_act rfl ⟨⟨by decide, by decide⟩, (Nat.le_of_ble_eq_true rfl), (Nat.le_of_ble_eq_true rfl)⟩ (Nat.le_of_ble_eq_true rfl) rfl dL_refuses_720 kxN (fun v w_2 H locs hq hP hD hS => ?_)
            refine W.widen (k := 342) (n := 42636) (Nat.le_of_ble_eq_true rfl) (Nat.le_of_ble_eq_true rfl) ?_
            rw [hq.2] at hP hD
            rw [hq.1]
            dsimp only [Option.toList, List.cons_append, List.nil_append]
            refine lv_bipush (pc := 723) (v := iv (-71)) hx hb dL_refuses_723 (by decide) ?_
            refine r_icmp_ne (pc := 725) (a := (-71)) (b := (-71)) hx hb dL_refuses_725 (tgt := 748) (by decide) ⟨by omega, by omega⟩ ⟨by omega, by omega⟩ (fun c_725 => ?_) (fun c_725 => ?_)
            · exact absurd c_725 (by decide)
            · have c_725_ := c_725
              refine lv_aload_n (pc := 728) hx hb dL_refuses_728 rfl (lv_at hl 0 rfl) ?_
              refine lv_iconst (pc := 729) (v := iv 0) hx hb dL_refuses_729 rfl ?_
              refine lv_iconst (pc := 730) (v := iv (-1)) hx hb dL_refuses_730 rfl ?_
              refine lv_iconst (pc := 731) (v := iv 0) hx hb dL_refuses_731 rfl ?_
              refine lv_iload (pc := 732) hx hb dL_refuses_732 (lv_at hl 10 rfl) ?_
              refine lv_iconst (pc := 734) (v := iv 0) hx hb dL_refuses_734 rfl ?_
              refine lv_iconst (pc := 735) (v := iv 1) hx hb dL_refuses_735 rfl ?_
              refine c_callSW (pc := 736) (y := yL_taken) (As := [.ref x, .int (iv 0), .int (iv ((-1))), .int (iv 0), .int (iv la), .int (iv 0), .int (iv 1)]) (rest := []) hC hE hP hD hS hl.1 (A_taken_io l ε hst hH 0 ((-1)) 0 la 0 1 (by decide) (by decide) (by decide) ⟨by omega, by omega⟩ (by decide) (by decide) (by omega)) m_15_12 m_15_13 m_0_5 m_15_14 hd_yL_taken rfl ⟨⟨by decide, by decide⟩, (Nat.le_of_ble_eq_true rfl), (Nat.le_of_ble_eq_true rfl)⟩ (Nat.le_of_ble_eq_true rfl) rfl dL_refuses_736 kxN (fun v w_3 H locs hq hP hD hS => ?_)
              refine W.widen (k := 348) (n := 42672) (Nat.le_of_ble_eq_true rfl) (Nat.le_of_ble_eq_true rfl) ?_
              rw [hq.2] at hP hD
              rw [hq.1]
              dsimp only [Option.toList, List.cons_append, List.nil_append]
              refine lv_bipush (pc := 739) (v := iv (-71)) hx hb dL_refuses_739 (by decide) ?_
              refine r_icmp_ne (pc := 741) (a := (-71)) (b := (-71)) hx hb dL_refuses_741 (tgt := 748) (by decide) ⟨by omega, by omega⟩ ⟨by omega, by omega⟩ (fun c_741 => ?_) (fun c_741 => ?_)
              · exact absurd c_741 (by decide)
              · have c_741_ := c_741
                refine lv_iconst (pc := 744) (v := iv 1) hx hb dL_refuses_744 rfl ?_
                refine lv_goto (pc := 745) (tgt := 749) hx hb dL_refuses_745 (by decide) ?_
                refine lv_istore (lv' := [(15, .int (iv 1)), (0, .ref x), (1, .int (iv pa)), (2, .int (iv la)), (3, .int (iv ca)), (4, .int (iv (n 3))), (5, .int (iv (clcB G (n 2).toNat))), (6, .int (iv 2147483647)), (7, .int (iv 1)), (8, .int (iv ((-2147483648)))), (9, .int (iv pa)), (10, .int (iv la)), (11, .int (iv ca)), (12, .int (iv 32)), (13, .int (iv 41)), (14, .int (iv 256))]) (pc := 749) hx hb dL_refuses_749 hl (by decide) rfl (fun ls hl => ?_)
                refine W.widen (k := 348) (n := 42672) (Nat.le_of_ble_eq_true rfl) (Nat.le_of_ble_eq_true rfl) ?_
                exact hnx _ _ _ _ _ _ _ _ _ hC hE hQ _ _ _ _ rfl hP hD hS (lv_sub hl [1, 2, 3, 4, 5, 6, 7, 8, 9, 10, 11, 12, 13, 14, 15, 0] rfl)
      · exact absurd c_684 (by decide)
set_option maxRecDepth 100000 in
set_option maxHeartbeats 8000000 in
theorem sr_11 (l : Launch) (ε : EV) (hst : l.stackTraces = false) {x : Nat} {n : Nat → Int} {G : Nat → Nat → Int} {w : va_W} (hHw : HS ε x n G w) (pa la ca : Int) (hpa : pa = n 1) (hla : la = n 2) (hca : ca = n 4) (h3 : n 3 < 512) (hnx : SEG l ε yL_refuses cL_refuses 16 rm_A_refuses (fun v z => v = some (.int (iv 1)) ∧ z = w) 867 372 42816 [(0, .ref x), (1, .int (iv pa)), (2, .int (iv la)), (3, .int (iv ca)), (4, .int (iv (n 3))), (5, .int (iv (clcB G (n 2).toNat))), (6, .int (iv 2147483647)), (7, .int (iv 1)), (8, .int (iv ((-2147483648)))), (9, .int (iv pa)), (10, .int (iv la)), (11, .int (iv ca)), (12, .int (iv 32)), (13, .int (iv 41)), (14, .int (iv 256)), (15, .int (iv 1))] (fun z => z = w)) : SEG l ε yL_refuses cL_refuses 16 rm_A_refuses (fun v z => v = some (.int (iv 1)) ∧ z = w) 751 348 42672 [(0, .ref x), (1, .int (iv pa)), (2, .int (iv la)), (3, .int (iv ca)), (4, .int (iv (n 3))), (5, .int (iv (clcB G (n 2).toNat))), (6, .int (iv 2147483647)), (7, .int (iv 1)), (8, .int (iv ((-2147483648)))), (9, .int (iv pa)), (10, .int (iv la)), (11, .int (iv ca)), (12, .int (iv 32)), (13, .int (iv 41)), (14, .int (iv 256)), (15, .int (iv 1))] (fun z => z = w) := by
  intro p9 e9 s9 m9 a9 bl9 me9 c9 Q9 hC hE hQ H locs ls w9 hH hP hD hS hl
  have hx := hC.1
  have hb := hC.2.1
  have hK := hE.K
  subst hH
  have hH := hHw
  obtain ⟨fo, hob⟩ := hH.ob
  have hI := hH.inv
  have hN := hI.NB
  have hlp := lamp_patt hI
  refine lv_iload_n (pc := 751) hx hb dL_refuses_751 rfl (lv_at hl 3 rfl) ?_
  refine r_if_le (pc := 752) (a := ca) hx hb dL_refuses_752 (tgt := 867) (by decide) ⟨by omega, by omega⟩ (fun c_752 => ?_) (fun c_752 => ?_)
  · have c_752_ := c_752
    refine W.widen (k := 372) (n := 42816) (Nat.le_of_ble_eq_true rfl) (Nat.le_of_ble_eq_true rfl) ?_
    exact hnx _ _ _ _ _ _ _ _ _ hC hE hQ _ _ _ _ rfl hP hD hS (lv_sub hl [0, 1, 2, 3, 4, 5, 6, 7, 8, 9, 10, 11, 12, 13, 14, 15] rfl)
  · have c_752_ := c_752
    refine lv_iload_n (pc := 755) hx hb dL_refuses_755 rfl (lv_at hl 2 rfl) ?_
    refine r_if_le (pc := 756) (a := la) hx hb dL_refuses_756 (tgt := 867) (by decide) ⟨by omega, by omega⟩ (fun c_756 => ?_) (fun c_756 => ?_)
    · have c_756_ := c_756
      refine W.widen (k := 372) (n := 42816) (Nat.le_of_ble_eq_true rfl) (Nat.le_of_ble_eq_true rfl) ?_
      exact hnx _ _ _ _ _ _ _ _ _ hC hE hQ _ _ _ _ rfl hP hD hS (lv_sub hl [0, 1, 2, 3, 4, 5, 6, 7, 8, 9, 10, 11, 12, 13, 14, 15] rfl)
    · have c_756_ := c_756
      refine lv_iload (pc := 759) hx hb dL_refuses_759 (lv_at hl 15 rfl) ?_
      refine r_if_eq (pc := 761) (a := 1) hx hb dL_refuses_761 (tgt := 864) (by decide) ⟨by omega, by omega⟩ (fun c_761 => ?_) (fun c_761 => ?_)
      · exact absurd c_761 (by decide)
      · have c_761_ := c_761
        refine lv_aload_n (pc := 764) hx hb dL_refuses_764 rfl (lv_at hl 0 rfl) ?_
        refine lv_iconst (pc := 765) (v := iv 0) hx hb dL_refuses_765 rfl ?_
        refine lv_iload (pc := 766) hx hb dL_refuses_766 (lv_at hl 12 rfl) ?_
        refine lv_iconst (pc := 768) (v := iv 0) hx hb dL_refuses_768 rfl ?_
        refine lv_iconst (pc := 769) (v := iv 0) hx hb dL_refuses_769 rfl ?_
        refine lv_iconst (pc := 770) (v := iv 0) hx hb dL_refuses_770 rfl ?_
        refine lv_iconst (pc := 771) (v := iv 1) hx hb dL_refuses_771 rfl ?_
        refine c_callSW (pc := 772) (y := yL_taken) (As := [.ref x, .int (iv 0), .int (iv 32), .int (iv 0), .int (iv 0), .int (iv 0), .int (iv 1)]) (rest := []) hC hE hP hD hS hl.1 (A_taken_ia l ε hst hH 0 32 0 0 0 1 (by decide) (by decide) (by decide) (by decide) (by decide) (by decide) (by omega)) m_15_12 m_15_13 m_0_5 m_15_14 hd_yL_taken rfl ⟨⟨by decide, by decide⟩, (Nat.le_of_ble_eq_true rfl), (Nat.le_of_ble_eq_true rfl)⟩ (Nat.le_of_ble_eq_true rfl) rfl dL_refuses_772 kxN (fun v w_1 H locs hq hP hD hS => ?_)
        refine W.widen (k := 354) (n := 42708) (Nat.le_of_ble_eq_true rfl) (Nat.le_of_ble_eq_true rfl) ?_
        rw [hq.2] at hP hD
        rw [hq.1]
        dsimp only [Option.toList, List.cons_append, List.nil_append]
        refine lv_bipush (pc := 775) (v := iv (-72)) hx hb dL_refuses_775 (by decide) ?_
        refine r_icmp_ne (pc := 777) (a := (-72)) (b := (-72)) hx hb dL_refuses_777 (tgt := 864) (by decide) ⟨by omega, by omega⟩ ⟨by omega, by omega⟩ (fun c_777 => ?_) (fun c_777 => ?_)
        · exact absurd c_777 (by decide)
        · have c_777_ := c_777
          refine lv_aload_n (pc := 780) hx hb dL_refuses_780 rfl (lv_at hl 0 rfl) ?_
          refine lv_iconst (pc := 781) (v := iv 0) hx hb dL_refuses_781 rfl ?_
          refine lv_iconst (pc := 782) (v := iv 0) hx hb dL_refuses_782 rfl ?_
          refine lv_iload (pc := 783) hx hb dL_refuses_783 (lv_at hl 12 rfl) ?_
          refine lv_iconst (pc := 785) (v := iv 0) hx hb dL_refuses_785 rfl ?_
          refine lv_iconst (pc := 786) (v := iv 0) hx hb dL_refuses_786 rfl ?_
          refine lv_iconst (pc := 787) (v := iv 1) hx hb dL_refuses_787 rfl ?_
          refine c_callSW (pc := 788) (y := yL_taken) (As := [.ref x, .int (iv 0), .int (iv 0), .int (iv 32), .int (iv 0), .int (iv 0), .int (iv 1)]) (rest := []) hC hE hP hD hS hl.1 (A_taken_ia l ε hst hH 0 0 32 0 0 1 (by decide) (by decide) (by decide) (by decide) (by decide) (by decide) (by omega)) m_15_12 m_15_13 m_0_5 m_15_14 hd_yL_taken rfl ⟨⟨by decide, by decide⟩, (Nat.le_of_ble_eq_true rfl), (Nat.le_of_ble_eq_true rfl)⟩ (Nat.le_of_ble_eq_true rfl) rfl dL_refuses_788 kxN (fun v w_2 H locs hq hP hD hS => ?_)
          refine W.widen (k := 360) (n := 42744) (Nat.le_of_ble_eq_true rfl) (Nat.le_of_ble_eq_true rfl) ?_
          rw [hq.2] at hP hD
          rw [hq.1]
          dsimp only [Option.toList, List.cons_append, List.nil_append]
          refine lv_bipush (pc := 791) (v := iv (-72)) hx hb dL_refuses_791 (by decide) ?_
          refine r_icmp_ne (pc := 793) (a := (-72)) (b := (-72)) hx hb dL_refuses_793 (tgt := 864) (by decide) ⟨by omega, by omega⟩ ⟨by omega, by omega⟩ (fun c_793 => ?_) (fun c_793 => ?_)
          · exact absurd c_793 (by decide)
          · have c_793_ := c_793
            refine lv_aload_n (pc := 796) hx hb dL_refuses_796 rfl (lv_at hl 0 rfl) ?_
            refine lv_iconst (pc := 797) (v := iv 0) hx hb dL_refuses_797 rfl ?_
            refine lv_iconst (pc := 798) (v := iv 0) hx hb dL_refuses_798 rfl ?_
            refine lv_iconst (pc := 799) (v := iv 0) hx hb dL_refuses_799 rfl ?_
            refine lv_iconst (pc := 800) (v := iv 0) hx hb dL_refuses_800 rfl ?_
            refine lv_iload (pc := 801) hx hb dL_refuses_801 (lv_at hl 7 rfl) ?_
            refine lv_iconst (pc := 803) (v := iv 1) hx hb dL_refuses_803 rfl ?_
            refine r_icmp_ne (pc := 804) (a := 1) (b := 1) hx hb dL_refuses_804 (tgt := 813) (by decide) ⟨by omega, by omega⟩ ⟨by omega, by omega⟩ (fun c_804 => ?_) (fun c_804 => ?_)
            · exact absurd c_804 (by decide)
            · have c_804_ := c_804
              refine lv_sipush (pc := 807) (v := iv 1001) hx hb dL_refuses_807 (by decide) ?_
              refine lv_goto (pc := 810) (tgt := 815) hx hb dL_refuses_810 (by decide) ?_
              refine lv_iconst (pc := 815) (v := iv 1) hx hb dL_refuses_815 rfl ?_
              refine c_callSW (pc := 816) (y := yL_taken) (As := [.ref x, .int (iv 0), .int (iv 0), .int (iv 0), .int (iv 0), .int (iv 1001), .int (iv 1)]) (rest := []) hC hE hP hD hS hl.1 (A_taken_ia l ε hst hH 0 0 0 0 1001 1 (by decide) (by decide) (by decide) (by decide) (by decide) (by decide) (by omega)) m_15_12 m_15_13 m_0_5 m_15_14 hd_yL_taken rfl ⟨⟨by decide, by decide⟩, (Nat.le_of_ble_eq_true rfl), (Nat.le_of_ble_eq_true rfl)⟩ (Nat.le_of_ble_eq_true rfl) rfl dL_refuses_816 kxN (fun v w_3 H locs hq hP hD hS => ?_)
              refine W.widen (k := 366) (n := 42780) (Nat.le_of_ble_eq_true rfl) (Nat.le_of_ble_eq_true rfl) ?_
              rw [hq.2] at hP hD
              rw [hq.1]
              dsimp only [Option.toList, List.cons_append, List.nil_append]
              refine lv_bipush (pc := 819) (v := iv (-72)) hx hb dL_refuses_819 (by decide) ?_
              refine r_icmp_ne (pc := 821) (a := (-72)) (b := (-72)) hx hb dL_refuses_821 (tgt := 864) (by decide) ⟨by omega, by omega⟩ ⟨by omega, by omega⟩ (fun c_821 => ?_) (fun c_821 => ?_)
              · exact absurd c_821 (by decide)
              · have c_821_ := c_821
                refine lv_aload_n (pc := 824) hx hb dL_refuses_824 rfl (lv_at hl 0 rfl) ?_
                refine lv_iconst (pc := 825) (v := iv 0) hx hb dL_refuses_825 rfl ?_
                refine lv_iconst (pc := 826) (v := iv 0) hx hb dL_refuses_826 rfl ?_
                refine lv_iconst (pc := 827) (v := iv 0) hx hb dL_refuses_827 rfl ?_
                refine lv_iconst (pc := 828) (v := iv 0) hx hb dL_refuses_828 rfl ?_
                refine lv_iconst (pc := 829) (v := iv 0) hx hb dL_refuses_829 rfl ?_
                refine lv_iload (pc := 830) hx hb dL_refuses_830 (lv_at hl 7 rfl) ?_
                refine r_if_ne (pc := 832) (a := 1) hx hb dL_refuses_832 (tgt := 839) (by decide) ⟨by omega, by omega⟩ (fun c_832 => ?_) (fun c_832 => ?_)
                · have c_832_ := c_832
                  refine lv_iload (pc := 839) hx hb dL_refuses_839 (lv_at hl 7 rfl) ?_
                  refine lv_iconst (pc := 841) (v := iv 1) hx hb dL_refuses_841 rfl ?_
                  refine r_icmp_ne (pc := 842) (a := 1) (b := 1) hx hb dL_refuses_842 (tgt := 850) (by decide) ⟨by omega, by omega⟩ ⟨by omega, by omega⟩ (fun c_842 => ?_) (fun c_842 => ?_)
                  · exact absurd c_842 (by decide)
                  · have c_842_ := c_842
                    refine lv_bipush (pc := 845) (v := iv 61) hx hb dL_refuses_845 (by decide) ?_
                    refine lv_goto (pc := 847) (tgt := 852) hx hb dL_refuses_847 (by decide) ?_
                    refine c_callSW (pc := 852) (y := yL_taken) (As := [.ref x, .int (iv 0), .int (iv 0), .int (iv 0), .int (iv 0), .int (iv 0), .int (iv 61)]) (rest := []) hC hE hP hD hS hl.1 (A_taken_ia l ε hst hH 0 0 0 0 0 61 (by decide) (by decide) (by decide) (by decide) (by decide) (by decide) (by omega)) m_15_12 m_15_13 m_0_5 m_15_14 hd_yL_taken rfl ⟨⟨by decide, by decide⟩, (Nat.le_of_ble_eq_true rfl), (Nat.le_of_ble_eq_true rfl)⟩ (Nat.le_of_ble_eq_true rfl) rfl dL_refuses_852 kxN (fun v w_4 H locs hq hP hD hS => ?_)
                    refine W.widen (k := 372) (n := 42816) (Nat.le_of_ble_eq_true rfl) (Nat.le_of_ble_eq_true rfl) ?_
                    rw [hq.2] at hP hD
                    rw [hq.1]
                    dsimp only [Option.toList, List.cons_append, List.nil_append]
                    refine lv_bipush (pc := 855) (v := iv (-72)) hx hb dL_refuses_855 (by decide) ?_
                    refine r_icmp_ne (pc := 857) (a := (-72)) (b := (-72)) hx hb dL_refuses_857 (tgt := 864) (by decide) ⟨by omega, by omega⟩ ⟨by omega, by omega⟩ (fun c_857 => ?_) (fun c_857 => ?_)
                    · exact absurd c_857 (by decide)
                    · have c_857_ := c_857
                      refine lv_iconst (pc := 860) (v := iv 1) hx hb dL_refuses_860 rfl ?_
                      refine lv_goto (pc := 861) (tgt := 865) hx hb dL_refuses_861 (by decide) ?_
                      refine lv_istore (lv' := [(15, .int (iv 1)), (0, .ref x), (1, .int (iv pa)), (2, .int (iv la)), (3, .int (iv ca)), (4, .int (iv (n 3))), (5, .int (iv (clcB G (n 2).toNat))), (6, .int (iv 2147483647)), (7, .int (iv 1)), (8, .int (iv ((-2147483648)))), (9, .int (iv pa)), (10, .int (iv la)), (11, .int (iv ca)), (12, .int (iv 32)), (13, .int (iv 41)), (14, .int (iv 256))]) (pc := 865) hx hb dL_refuses_865 hl (by decide) rfl (fun ls hl => ?_)
                      refine W.widen (k := 372) (n := 42816) (Nat.le_of_ble_eq_true rfl) (Nat.le_of_ble_eq_true rfl) ?_
                      exact hnx _ _ _ _ _ _ _ _ _ hC hE hQ _ _ _ _ rfl hP hD hS (lv_sub hl [1, 2, 3, 4, 5, 6, 7, 8, 9, 10, 11, 12, 13, 14, 15, 0] rfl)
                · exact absurd c_832 (by decide)
set_option maxRecDepth 100000 in
set_option maxHeartbeats 8000000 in
theorem sr_12 (l : Launch) (ε : EV) (hst : l.stackTraces = false) {x : Nat} {n : Nat → Int} {G : Nat → Nat → Int} {w : va_W} (hHw : HS ε x n G w) (pa la ca : Int) (hpa : pa = n 1) (hla : la = n 2) (hca : ca = n 4) (h3 : n 3 < 512) (hnx : SEG l ε yL_refuses cL_refuses 16 rm_A_refuses (fun v z => v = some (.int (iv 1)) ∧ z = w) 19 372 42816 [(0, .ref x), (1, .int (iv pa)), (2, .int (iv la)), (3, .int (iv ca)), (4, .int (iv (n 3))), (5, .int (iv (clcB G (n 2).toNat))), (6, .int (iv 2147483647)), (7, .int (iv 2))] (fun z => z = w)) : SEG l ε yL_refuses cL_refuses 16 rm_A_refuses (fun v z => v = some (.int (iv 1)) ∧ z = w) 867 372 42816 [(0, .ref x), (1, .int (iv pa)), (2, .int (iv la)), (3, .int (iv ca)), (4, .int (iv (n 3))), (5, .int (iv (clcB G (n 2).toNat))), (6, .int (iv 2147483647)), (7, .int (iv 1)), (8, .int (iv ((-2147483648)))), (9, .int (iv pa)), (10, .int (iv la)), (11, .int (iv ca)), (12, .int (iv 32)), (13, .int (iv 41)), (14, .int (iv 256)), (15, .int (iv 1))] (fun z => z = w) := by
  intro p9 e9 s9 m9 a9 bl9 me9 c9 Q9 hC hE hQ H locs ls w9 hH hP hD hS hl
  have hx := hC.1
  have hb := hC.2.1
  have hK := hE.K
  subst hH
  have hH := hHw
  obtain ⟨fo, hob⟩ := hH.ob
  have hI := hH.inv
  have hN := hI.NB
  have hlp := lamp_patt hI
  refine lv_iload (pc := 867) hx hb dL_refuses_867 (lv_at hl 15 rfl) ?_
  refine r_if_ne (pc := 869) (a := 1) hx hb dL_refuses_869 (tgt := 874) (by decide) ⟨by omega, by omega⟩ (fun c_869 => ?_) (fun c_869 => ?_)
  · have c_869_ := c_869
    refine lv_iinc (v := iv (2)) (lv' := [(7, .int (iv 2)), (0, .ref x), (1, .int (iv pa)), (2, .int (iv la)), (3, .int (iv ca)), (4, .int (iv (n 3))), (5, .int (iv (clcB G (n 2).toNat))), (6, .int (iv 2147483647)), (8, .int (iv ((-2147483648)))), (9, .int (iv pa)), (10, .int (iv la)), (11, .int (iv ca)), (12, .int (iv 32)), (13, .int (iv 41)), (14, .int (iv 256)), (15, .int (iv 1))]) (pc := 874) hx hb dL_refuses_874 hl (k := 7) rfl (iv_add _ _) (by decide) rfl (fun ls hl => ?_)
    refine lv_goto (pc := 877) (tgt := 19) hx hb dL_refuses_877 (by decide) ?_
    refine W.widen (k := 372) (n := 42816) (Nat.le_of_ble_eq_true rfl) (Nat.le_of_ble_eq_true rfl) ?_
    exact hnx _ _ _ _ _ _ _ _ _ hC hE hQ _ _ _ _ rfl hP hD hS (lv_sub hl [1, 2, 3, 4, 5, 6, 7, 0] rfl)
  · exact absurd c_869 (by decide)
set_option maxRecDepth 100000 in
set_option maxHeartbeats 8000000 in
theorem sr_13 (l : Launch) (ε : EV) (hst : l.stackTraces = false) {x : Nat} {n : Nat → Int} {G : Nat → Nat → Int} {w : va_W} (hHw : HS ε x n G w) (pa la ca : Int) (hpa : pa = n 1) (hla : la = n 2) (hca : ca = n 4) (h3 : n 3 < 512) (hnx : SEG l ε yL_refuses cL_refuses 16 rm_A_refuses (fun v z => v = some (.int (iv 1)) ∧ z = w) 409 431 48492 [(0, .ref x), (1, .int (iv pa)), (2, .int (iv la)), (3, .int (iv ca)), (4, .int (iv (n 3))), (5, .int (iv (clcB G (n 2).toNat))), (6, .int (iv 2147483647)), (7, .int (iv 2)), (8, .int (iv 2147483647)), (9, .int (iv 2147483647)), (10, .int (iv 2147483647)), (11, .int (iv 2147483647)), (12, .int (iv 2147483647)), (13, .int (iv 2147483647)), (14, .int (iv 2147483647)), (15, .int (iv 1))] (fun z => z = w)) : SEG l ε yL_refuses cL_refuses 16 rm_A_refuses (fun v z => v = some (.int (iv 1)) ∧ z = w) 19 372 42816 [(0, .ref x), (1, .int (iv pa)), (2, .int (iv la)), (3, .int (iv ca)), (4, .int (iv (n 3))), (5, .int (iv (clcB G (n 2).toNat))), (6, .int (iv 2147483647)), (7, .int (iv 2))] (fun z => z = w) := by
  intro p9 e9 s9 m9 a9 bl9 me9 c9 Q9 hC hE hQ H locs ls w9 hH hP hD hS hl
  have hx := hC.1
  have hb := hC.2.1
  have hK := hE.K
  subst hH
  have hH := hHw
  obtain ⟨fo, hob⟩ := hH.ob
  have hI := hH.inv
  have hN := hI.NB
  have hlp := lamp_patt hI
  refine lv_iload (pc := 19) hx hb dL_refuses_19 (lv_at hl 7 rfl) ?_
  refine lv_iconst (pc := 21) (v := iv 4) hx hb dL_refuses_21 rfl ?_
  refine r_icmp_ge (pc := 22) (a := 2) (b := 4) hx hb dL_refuses_22 (tgt := 880) (by decide) ⟨by omega, by omega⟩ ⟨by omega, by omega⟩ (fun c_22 => ?_) (fun c_22 => ?_)
  · exact absurd c_22 (by decide)
  · have c_22_ := c_22
    refine lv_iload (pc := 25) hx hb dL_refuses_25 (lv_at hl 7 rfl) ?_
    refine r_if_ne (pc := 27) (a := 2) hx hb dL_refuses_27 (tgt := 34) (by decide) ⟨by omega, by omega⟩ (fun c_27 => ?_) (fun c_27 => ?_)
    · have c_27_ := c_27
      refine lv_iload (pc := 34) hx hb dL_refuses_34 (lv_at hl 7 rfl) ?_
      refine lv_iconst (pc := 36) (v := iv 2) hx hb dL_refuses_36 rfl ?_
      refine r_icmp_ne (pc := 37) (a := 2) (b := 2) hx hb dL_refuses_37 (tgt := 45) (by decide) ⟨by omega, by omega⟩ ⟨by omega, by omega⟩ (fun c_37 => ?_) (fun c_37 => ?_)
      · exact absurd c_37 (by decide)
      · have c_37_ := c_37
        refine lv_iload (pc := 40) hx hb dL_refuses_40 (lv_at hl 6 rfl) ?_
        refine lv_goto (pc := 42) (tgt := 50) hx hb dL_refuses_42 (by decide) ?_
        refine lv_istore (lv' := [(8, .int (iv 2147483647)), (0, .ref x), (1, .int (iv pa)), (2, .int (iv la)), (3, .int (iv ca)), (4, .int (iv (n 3))), (5, .int (iv (clcB G (n 2).toNat))), (6, .int (iv 2147483647)), (7, .int (iv 2))]) (pc := 50) hx hb dL_refuses_50 hl (by decide) rfl (fun ls hl => ?_)
        refine lv_iload (pc := 52) hx hb dL_refuses_52 (lv_at hl 8 rfl) ?_
        refine lv_iconst (pc := 54) (v := iv 1) hx hb dL_refuses_54 rfl ?_
        refine r_icmp_ne (pc := 55) (a := 2) (b := 1) hx hb dL_refuses_55 (tgt := 62) (by decide) ⟨by omega, by omega⟩ ⟨by omega, by omega⟩ (fun c_55 => ?_) (fun c_55 => ?_)
        · have c_55_ := c_55
          refine lv_iload (pc := 62) hx hb dL_refuses_62 (lv_at hl 0 rfl) ?_
          refine lv_istore (lv' := [(9, .int (iv 2147483647)), (8, .int (iv 2147483647)), (0, .ref x), (1, .int (iv pa)), (2, .int (iv la)), (3, .int (iv ca)), (4, .int (iv (n 3))), (5, .int (iv (clcB G (n 2).toNat))), (6, .int (iv 2147483647)), (7, .int (iv 2))]) (pc := 64) hx hb dL_refuses_64 hl (by decide) rfl (fun ls hl => ?_)
          refine lv_iload (pc := 66) hx hb dL_refuses_66 (lv_at hl 9 rfl) ?_
          refine lv_iconst (pc := 68) (v := iv 1) hx hb dL_refuses_68 rfl ?_
          refine r_icmp_ne (pc := 69) (a := 2) (b := 1) hx hb dL_refuses_69 (tgt := 76) (by decide) ⟨by omega, by omega⟩ ⟨by omega, by omega⟩ (fun c_69 => ?_) (fun c_69 => ?_)
          · have c_69_ := c_69
            refine lv_iload (pc := 76) hx hb dL_refuses_76 (lv_at hl 1 rfl) ?_
            refine lv_istore (lv' := [(10, .int (iv 2147483647)), (9, .int (iv 2147483647)), (8, .int (iv 2147483647)), (0, .ref x), (1, .int (iv pa)), (2, .int (iv la)), (3, .int (iv ca)), (4, .int (iv (n 3))), (5, .int (iv (clcB G (n 2).toNat))), (6, .int (iv 2147483647)), (7, .int (iv 2))]) (pc := 78) hx hb dL_refuses_78 hl (by decide) rfl (fun ls hl => ?_)
            refine lv_iload (pc := 80) hx hb dL_refuses_80 (lv_at hl 10 rfl) ?_
            refine lv_iconst (pc := 82) (v := iv 1) hx hb dL_refuses_82 rfl ?_
            refine r_icmp_ne (pc := 83) (a := 2) (b := 1) hx hb dL_refuses_83 (tgt := 90) (by decide) ⟨by omega, by omega⟩ ⟨by omega, by omega⟩ (fun c_83 => ?_) (fun c_83 => ?_)
            · have c_83_ := c_83
              refine lv_iload (pc := 90) hx hb dL_refuses_90 (lv_at hl 2 rfl) ?_
              refine lv_istore (lv' := [(11, .int (iv 2147483647)), (10, .int (iv 2147483647)), (9, .int (iv 2147483647)), (8, .int (iv 2147483647)), (0, .ref x), (1, .int (iv pa)), (2, .int (iv la)), (3, .int (iv ca)), (4, .int (iv (n 3))), (5, .int (iv (clcB G (n 2).toNat))), (6, .int (iv 2147483647)), (7, .int (iv 2))]) (pc := 92) hx hb dL_refuses_92 hl (by decide) rfl (fun ls hl => ?_)
              refine lv_iload (pc := 94) hx hb dL_refuses_94 (lv_at hl 11 rfl) ?_
              refine lv_iconst (pc := 96) (v := iv 1) hx hb dL_refuses_96 rfl ?_
              refine r_icmp_ne (pc := 97) (a := 2) (b := 1) hx hb dL_refuses_97 (tgt := 105) (by decide) ⟨by omega, by omega⟩ ⟨by omega, by omega⟩ (fun c_97 => ?_) (fun c_97 => ?_)
              · have c_97_ := c_97
                refine lv_iload (pc := 105) hx hb dL_refuses_105 (lv_at hl 3 rfl) ?_
                refine lv_istore (lv' := [(12, .int (iv 2147483647)), (11, .int (iv 2147483647)), (10, .int (iv 2147483647)), (9, .int (iv 2147483647)), (8, .int (iv 2147483647)), (0, .ref x), (1, .int (iv pa)), (2, .int (iv la)), (3, .int (iv ca)), (4, .int (iv (n 3))), (5, .int (iv (clcB G (n 2).toNat))), (6, .int (iv 2147483647)), (7, .int (iv 2))]) (pc := 107) hx hb dL_refuses_107 hl (by decide) rfl (fun ls hl => ?_)
                refine lv_iload (pc := 109) hx hb dL_refuses_109 (lv_at hl 12 rfl) ?_
                refine r_if_ne (pc := 111) (a := 2) hx hb dL_refuses_111 (tgt := 118) (by decide) ⟨by omega, by omega⟩ (fun c_111 => ?_) (fun c_111 => ?_)
                · have c_111_ := c_111
                  refine lv_iload (pc := 118) hx hb dL_refuses_118 (lv_at hl 12 rfl) ?_
                  refine lv_iconst (pc := 120) (v := iv 1) hx hb dL_refuses_120 rfl ?_
                  refine r_icmp_ne (pc := 121) (a := 2) (b := 1) hx hb dL_refuses_121 (tgt := 129) (by decide) ⟨by omega, by omega⟩ ⟨by omega, by omega⟩ (fun c_121 => ?_) (fun c_121 => ?_)
                  · have c_121_ := c_121
                    refine lv_iload (pc := 129) hx hb dL_refuses_129 (lv_at hl 4 rfl) ?_
                    refine lv_istore (lv' := [(13, .int (iv 2147483647)), (12, .int (iv 2147483647)), (11, .int (iv 2147483647)), (10, .int (iv 2147483647)), (9, .int (iv 2147483647)), (8, .int (iv 2147483647)), (0, .ref x), (1, .int (iv pa)), (2, .int (iv la)), (3, .int (iv ca)), (4, .int (iv (n 3))), (5, .int (iv (clcB G (n 2).toNat))), (6, .int (iv 2147483647)), (7, .int (iv 2))]) (pc := 131) hx hb dL_refuses_131 hl (by decide) rfl (fun ls hl => ?_)
                    refine lv_iload (pc := 133) hx hb dL_refuses_133 (lv_at hl 13 rfl) ?_
                    refine r_if_ne (pc := 135) (a := 2) hx hb dL_refuses_135 (tgt := 142) (by decide) ⟨by omega, by omega⟩ (fun c_135 => ?_) (fun c_135 => ?_)
                    · have c_135_ := c_135
                      refine lv_iload (pc := 142) hx hb dL_refuses_142 (lv_at hl 13 rfl) ?_
                      refine lv_iconst (pc := 144) (v := iv 1) hx hb dL_refuses_144 rfl ?_
                      refine r_icmp_ne (pc := 145) (a := 2) (b := 1) hx hb dL_refuses_145 (tgt := 154) (by decide) ⟨by omega, by omega⟩ ⟨by omega, by omega⟩ (fun c_145 => ?_) (fun c_145 => ?_)
                      · have c_145_ := c_145
                        refine lv_iload (pc := 154) hx hb dL_refuses_154 (lv_at hl 5 rfl) ?_
                        refine lv_istore (lv' := [(14, .int (iv 2147483647)), (13, .int (iv 2147483647)), (12, .int (iv 2147483647)), (11, .int (iv 2147483647)), (10, .int (iv 2147483647)), (9, .int (iv 2147483647)), (8, .int (iv 2147483647)), (0, .ref x), (1, .int (iv pa)), (2, .int (iv la)), (3, .int (iv ca)), (4, .int (iv (n 3))), (5, .int (iv (clcB G (n 2).toNat))), (6, .int (iv 2147483647)), (7, .int (iv 2))]) (pc := 156) hx hb dL_refuses_156 hl (by decide) rfl (fun ls hl => ?_)
                        refine lv_aload_n (pc := 158) hx hb dL_refuses_158 rfl (lv_at hl 7 rfl) ?_
                        refine lv_iconst (pc := 159) (v := iv 0) hx hb dL_refuses_159 rfl ?_
                        refine lv_iload (pc := 160) hx hb dL_refuses_160 (lv_at hl 14 rfl) ?_
                        refine r_if_ne (pc := 162) (a := 2) hx hb dL_refuses_162 (tgt := 169) (by decide) ⟨by omega, by omega⟩ (fun c_162 => ?_) (fun c_162 => ?_)
                        · have c_162_ := c_162
                          refine lv_iload (pc := 169) hx hb dL_refuses_169 (lv_at hl 14 rfl) ?_
                          refine lv_iconst (pc := 171) (v := iv 1) hx hb dL_refuses_171 rfl ?_
                          refine r_icmp_ne (pc := 172) (a := 2) (b := 1) hx hb dL_refuses_172 (tgt := 180) (by decide) ⟨by omega, by omega⟩ ⟨by omega, by omega⟩ (fun c_172 => ?_) (fun c_172 => ?_)
                          · have c_172_ := c_172
                            refine lv_iload (pc := 180) hx hb dL_refuses_180 (lv_at hl 6 rfl) ?_
                            refine lv_iconst (pc := 182) (v := iv 0) hx hb dL_refuses_182 rfl ?_
                            refine lv_iconst (pc := 183) (v := iv 0) hx hb dL_refuses_183 rfl ?_
                            refine c_callSW (pc := 184) (y := yL_act) (As := [.ref x, .int (iv 0), .int (iv 2147483647), .int (iv 0), .int (iv 0)]) (rest := []) hC hE hP hD hS hl.1 (A_phase_ia l ε hst hH 2147483647 0 0 (by decide) (by decide) (by decide) (by omega)) m_4_18 m_4_19 m_0_5 m_4_20 hd_yL_act rfl ⟨⟨by decide, by decide⟩, (Nat.le_of_ble_eq_true rfl), (Nat.le_of_ble_eq_true rfl)⟩ (Nat.le_of_ble_eq_true rfl) rfl dL_refuses_184 kxN (fun v w_1 H locs hq hP hD hS => ?_)
                            refine W.widen (k := 374) (n := 42828) (Nat.le_of_ble_eq_true rfl) (Nat.le_of_ble_eq_true rfl) ?_
                            rw [hq.2] at hP hD
                            rw [hq.1]
                            dsimp only [Option.toList, List.cons_append, List.nil_append]
                            refine lv_bipush (pc := 187) (v := iv (-72)) hx hb dL_refuses_187 (by decide) ?_
                            refine r_icmp_ne (pc := 189) (a := (-72)) (b := (-72)) hx hb dL_refuses_189 (tgt := 406) (by decide) ⟨by omega, by omega⟩ ⟨by omega, by omega⟩ (fun c_189 => ?_) (fun c_189 => ?_)
                            · exact absurd c_189 (by decide)
                            · have c_189_ := c_189
                              refine lv_aload_n (pc := 192) hx hb dL_refuses_192 rfl (lv_at hl 7 rfl) ?_
                              refine lv_iconst (pc := 193) (v := iv 2) hx hb dL_refuses_193 rfl ?_
                              refine lv_iload (pc := 194) hx hb dL_refuses_194 (lv_at hl 5 rfl) ?_
                              refine lv_iconst (pc := 196) (v := iv 0) hx hb dL_refuses_196 rfl ?_
                              refine lv_iconst (pc := 197) (v := iv 0) hx hb dL_refuses_197 rfl ?_
                              refine c_callSW (pc := 198) (y := yL_act) (As := [.ref x, .int (iv 2), .int (iv 2147483647), .int (iv 0), .int (iv 0)]) (rest := []) hC hE hP hD hS hl.1 (A_period_io l ε hst hH 2147483647 0 0 (by decide) (by decide) (by decide) (by omega)) m_4_18 m_4_19 m_0_5 m_4_20 hd_yL_act rfl ⟨⟨by decide, by decide⟩, (Nat.le_of_ble_eq_true rfl), (Nat.le_of_ble_eq_true rfl)⟩ (Nat.le_of_ble_eq_true rfl) rfl dL_refuses_198 kxN (fun v w_2 H locs hq hP hD hS => ?_)
                              refine W.widen (k := 375) (n := 42834) (Nat.le_of_ble_eq_true rfl) (Nat.le_of_ble_eq_true rfl) ?_
                              rw [hq.2] at hP hD
                              rw [hq.1]
                              dsimp only [Option.toList, List.cons_append, List.nil_append]
                              refine lv_bipush (pc := 201) (v := iv (-71)) hx hb dL_refuses_201 (by decide) ?_
                              refine r_icmp_ne (pc := 203) (a := (-71)) (b := (-71)) hx hb dL_refuses_203 (tgt := 406) (by decide) ⟨by omega, by omega⟩ ⟨by omega, by omega⟩ (fun c_203 => ?_) (fun c_203 => ?_)
                              · exact absurd c_203 (by decide)
                              · have c_203_ := c_203
                                refine lv_aload_n (pc := 206) hx hb dL_refuses_206 rfl (lv_at hl 7 rfl) ?_
                                refine lv_iconst (pc := 207) (v := iv 3) hx hb dL_refuses_207 rfl ?_
                                refine lv_iload (pc := 208) hx hb dL_refuses_208 (lv_at hl 5 rfl) ?_
                                refine lv_iload (pc := 210) hx hb dL_refuses_210 (lv_at hl 5 rfl) ?_
                                refine lv_iconst (pc := 212) (v := iv 0) hx hb dL_refuses_212 rfl ?_
                                refine c_callSW (pc := 213) (y := yL_act) (As := [.ref x, .int (iv 3), .int (iv 2147483647), .int (iv 2147483647), .int (iv 0)]) (rest := []) hC hE hP hD hS hl.1 (A_alike_io l ε hst hH 2147483647 2147483647 0 (by decide) (by decide) (by decide) (by omega)) m_4_18 m_4_19 m_0_5 m_4_20 hd_yL_act rfl ⟨⟨by decide, by decide⟩, (Nat.le_of_ble_eq_true rfl), (Nat.le_of_ble_eq_true rfl)⟩ (Nat.le_of_ble_eq_true rfl) rfl dL_refuses_213 kxN (fun v w_3 H locs hq hP hD hS => ?_)
                                refine W.widen (k := 377) (n := 42846) (Nat.le_of_ble_eq_true rfl) (Nat.le_of_ble_eq_true rfl) ?_
                                rw [hq.2] at hP hD
                                rw [hq.1]
                                dsimp only [Option.toList, List.cons_append, List.nil_append]
                                refine lv_bipush (pc := 216) (v := iv (-71)) hx hb dL_refuses_216 (by decide) ?_
                                refine r_icmp_ne (pc := 218) (a := (-71)) (b := (-71)) hx hb dL_refuses_218 (tgt := 406) (by decide) ⟨by omega, by omega⟩ ⟨by omega, by omega⟩ (fun c_218 => ?_) (fun c_218 => ?_)
                                · exact absurd c_218 (by decide)
                                · have c_218_ := c_218
                                  refine lv_aload_n (pc := 221) hx hb dL_refuses_221 rfl (lv_at hl 7 rfl) ?_
                                  refine lv_iconst (pc := 222) (v := iv 4) hx hb dL_refuses_222 rfl ?_
                                  refine lv_iload (pc := 223) hx hb dL_refuses_223 (lv_at hl 5 rfl) ?_
                                  refine lv_iload (pc := 225) hx hb dL_refuses_225 (lv_at hl 5 rfl) ?_
                                  refine lv_iconst (pc := 227) (v := iv 0) hx hb dL_refuses_227 rfl ?_
                                  refine c_callSW (pc := 228) (y := yL_act) (As := [.ref x, .int (iv 4), .int (iv 2147483647), .int (iv 2147483647), .int (iv 0)]) (rest := []) hC hE hP hD hS hl.1 (A_alikes_io l ε hst hH 2147483647 2147483647 0 (by decide) (by decide) (by decide) (by omega)) m_4_18 m_4_19 m_0_5 m_4_20 hd_yL_act rfl ⟨⟨by decide, by decide⟩, (Nat.le_of_ble_eq_true rfl), (Nat.le_of_ble_eq_true rfl)⟩ (Nat.le_of_ble_eq_true rfl) rfl dL_refuses_228 kxN (fun v w_4 H locs hq hP hD hS => ?_)
                                  refine W.widen (k := 379) (n := 42858) (Nat.le_of_ble_eq_true rfl) (Nat.le_of_ble_eq_true rfl) ?_
                                  rw [hq.2] at hP hD
                                  rw [hq.1]
                                  dsimp only [Option.toList, List.cons_append, List.nil_append]
                                  refine lv_bipush (pc := 231) (v := iv (-71)) hx hb dL_refuses_231 (by decide) ?_
                                  refine r_icmp_ne (pc := 233) (a := (-71)) (b := (-71)) hx hb dL_refuses_233 (tgt := 406) (by decide) ⟨by omega, by omega⟩ ⟨by omega, by omega⟩ (fun c_233 => ?_) (fun c_233 => ?_)
                                  · exact absurd c_233 (by decide)
                                  · have c_233_ := c_233
                                    refine lv_aload_n (pc := 236) hx hb dL_refuses_236 rfl (lv_at hl 7 rfl) ?_
                                    refine lv_iconst (pc := 237) (v := iv (-1)) hx hb dL_refuses_237 rfl ?_
                                    refine lv_iconst (pc := 238) (v := iv 0) hx hb dL_refuses_238 rfl ?_
                                    refine lv_iload (pc := 239) hx hb dL_refuses_239 (lv_at hl 5 rfl) ?_
                                    refine lv_iconst (pc := 241) (v := iv 0) hx hb dL_refuses_241 rfl ?_
                                    refine lv_iconst (pc := 242) (v := iv 0) hx hb dL_refuses_242 rfl ?_
                                    refine c_callSW (pc := 243) (y := yL_lamp) (As := [.ref x, .int (iv ((-1))), .int (iv 0), .int (iv 2147483647), .int (iv 0), .int (iv 0)]) (rest := []) hC hE hP hD hS hl.1 (A_lamp_io l ε hst hH ((-1)) 0 2147483647 0 0 (by decide) (by decide) (by decide) (by decide) (by decide) h3 (by omega)) m_14_15 m_14_16 m_0_5 m_14_17 hd_yL_lamp rfl ⟨⟨by decide, by decide⟩, (Nat.le_of_ble_eq_true rfl), (Nat.le_of_ble_eq_true rfl)⟩ (Nat.le_of_ble_eq_true rfl) rfl dL_refuses_243 kxN (fun v w_5 H locs hq hP hD hS => ?_)
                                    refine W.widen (k := 393) (n := 46158) (Nat.le_of_ble_eq_true rfl) (Nat.le_of_ble_eq_true rfl) ?_
                                    rw [hq.2] at hP hD
                                    rw [hq.1]
                                    dsimp only [Option.toList, List.cons_append, List.nil_append]
                                    refine lv_bipush (pc := 246) (v := iv (-71)) hx hb dL_refuses_246 (by decide) ?_
                                    refine r_icmp_ne (pc := 248) (a := (-71)) (b := (-71)) hx hb dL_refuses_248 (tgt := 406) (by decide) ⟨by omega, by omega⟩ ⟨by omega, by omega⟩ (fun c_248 => ?_) (fun c_248 => ?_)
                                    · exact absurd c_248 (by decide)
                                    · have c_248_ := c_248
                                      refine lv_aload_n (pc := 251) hx hb dL_refuses_251 rfl (lv_at hl 7 rfl) ?_
                                      refine lv_iconst (pc := 252) (v := iv 5) hx hb dL_refuses_252 rfl ?_
                                      refine lv_iload (pc := 253) hx hb dL_refuses_253 (lv_at hl 4 rfl) ?_
                                      refine lv_iconst (pc := 255) (v := iv 0) hx hb dL_refuses_255 rfl ?_
                                      refine lv_iconst (pc := 256) (v := iv (-1)) hx hb dL_refuses_256 rfl ?_
                                      refine c_callSW (pc := 257) (y := yL_act) (As := [.ref x, .int (iv 5), .int (iv 2147483647), .int (iv 0), .int (iv ((-1)))]) (rest := []) hC hE hP hD hS hl.1 (A_change_io l ε hst hH 2147483647 0 ((-1)) (by decide) (by decide) (by decide) h3 (by omega)) m_4_18 m_4_19 m_0_5 m_4_20 hd_yL_act rfl ⟨⟨by decide, by decide⟩, (Nat.le_of_ble_eq_true rfl), (Nat.le_of_ble_eq_true rfl)⟩ (Nat.le_of_ble_eq_true rfl) rfl dL_refuses_257 kxN (fun v w_6 H locs hq hP hD hS => ?_)
                                      refine W.widen (k := 401) (n := 47258) (Nat.le_of_ble_eq_true rfl) (Nat.le_of_ble_eq_true rfl) ?_
                                      rw [hq.2] at hP hD
                                      rw [hq.1]
                                      dsimp only [Option.toList, List.cons_append, List.nil_append]
                                      refine lv_bipush (pc := 260) (v := iv (-71)) hx hb dL_refuses_260 (by decide) ?_
                                      refine r_icmp_ne (pc := 262) (a := (-71)) (b := (-71)) hx hb dL_refuses_262 (tgt := 406) (by decide) ⟨by omega, by omega⟩ ⟨by omega, by omega⟩ (fun c_262 => ?_) (fun c_262 => ?_)
                                      · exact absurd c_262 (by decide)
                                      · have c_262_ := c_262
                                        refine lv_aload_n (pc := 265) hx hb dL_refuses_265 rfl (lv_at hl 7 rfl) ?_
                                        refine lv_bipush (pc := 266) (v := iv 6) hx hb dL_refuses_266 (by decide) ?_
                                        refine lv_iload (pc := 268) hx hb dL_refuses_268 (lv_at hl 4 rfl) ?_
                                        refine lv_iconst (pc := 270) (v := iv 1) hx hb dL_refuses_270 rfl ?_
                                        refine lv_iconst (pc := 271) (v := iv 0) hx hb dL_refuses_271 rfl ?_
                                        refine c_callSW (pc := 272) (y := yL_act) (As := [.ref x, .int (iv 6), .int (iv 2147483647), .int (iv 1), .int (iv 0)]) (rest := []) hC hE hP hD hS hl.1 (A_fail1_io l ε hst hH 2147483647 0 (by decide) (by decide) h3 (by omega)) m_4_18 m_4_19 m_0_5 m_4_20 hd_yL_act rfl ⟨⟨by decide, by decide⟩, (Nat.le_of_ble_eq_true rfl), (Nat.le_of_ble_eq_true rfl)⟩ (Nat.le_of_ble_eq_true rfl) rfl dL_refuses_272 kxN (fun v w_7 H locs hq hP hD hS => ?_)
                                        refine W.widen (k := 409) (n := 48358) (Nat.le_of_ble_eq_true rfl) (Nat.le_of_ble_eq_true rfl) ?_
                                        rw [hq.2] at hP hD
                                        rw [hq.1]
                                        dsimp only [Option.toList, List.cons_append, List.nil_append]
                                        refine lv_bipush (pc := 275) (v := iv (-71)) hx hb dL_refuses_275 (by decide) ?_
                                        refine r_icmp_ne (pc := 277) (a := (-71)) (b := (-71)) hx hb dL_refuses_277 (tgt := 406) (by decide) ⟨by omega, by omega⟩ ⟨by omega, by omega⟩ (fun c_277 => ?_) (fun c_277 => ?_)
                                        · exact absurd c_277 (by decide)
                                        · have c_277_ := c_277
                                          refine lv_aload_n (pc := 280) hx hb dL_refuses_280 rfl (lv_at hl 7 rfl) ?_
                                          refine lv_bipush (pc := 281) (v := iv 7) hx hb dL_refuses_281 (by decide) ?_
                                          refine lv_iload (pc := 283) hx hb dL_refuses_283 (lv_at hl 4 rfl) ?_
                                          refine lv_iconst (pc := 285) (v := iv (-1)) hx hb dL_refuses_285 rfl ?_
                                          refine lv_iconst (pc := 286) (v := iv 0) hx hb dL_refuses_286 rfl ?_
                                          refine c_callSW (pc := 287) (y := yL_act) (As := [.ref x, .int (iv 7), .int (iv 2147483647), .int (iv ((-1))), .int (iv 0)]) (rest := []) hC hE hP hD hS hl.1 (A_shines_io l ε hst hH 2147483647 ((-1)) 0 (by decide) (by decide) (by decide) (by omega)) m_4_18 m_4_19 m_0_5 m_4_20 hd_yL_act rfl ⟨⟨by decide, by decide⟩, (Nat.le_of_ble_eq_true rfl), (Nat.le_of_ble_eq_true rfl)⟩ (Nat.le_of_ble_eq_true rfl) rfl dL_refuses_287 kxN (fun v w_8 H locs hq hP hD hS => ?_)
                                          refine W.widen (k := 411) (n := 48370) (Nat.le_of_ble_eq_true rfl) (Nat.le_of_ble_eq_true rfl) ?_
                                          rw [hq.2] at hP hD
                                          rw [hq.1]
                                          dsimp only [Option.toList, List.cons_append, List.nil_append]
                                          refine lv_bipush (pc := 290) (v := iv (-71)) hx hb dL_refuses_290 (by decide) ?_
                                          refine r_icmp_ne (pc := 292) (a := (-71)) (b := (-71)) hx hb dL_refuses_292 (tgt := 406) (by decide) ⟨by omega, by omega⟩ ⟨by omega, by omega⟩ (fun c_292 => ?_) (fun c_292 => ?_)
                                          · exact absurd c_292 (by decide)
                                          · have c_292_ := c_292
                                            refine lv_aload_n (pc := 295) hx hb dL_refuses_295 rfl (lv_at hl 7 rfl) ?_
                                            refine lv_bipush (pc := 296) (v := iv 8) hx hb dL_refuses_296 (by decide) ?_
                                            refine lv_iload (pc := 298) hx hb dL_refuses_298 (lv_at hl 4 rfl) ?_
                                            refine lv_iconst (pc := 300) (v := iv (-1)) hx hb dL_refuses_300 rfl ?_
                                            refine lv_iconst (pc := 301) (v := iv 0) hx hb dL_refuses_301 rfl ?_
                                            refine c_callSW (pc := 302) (y := yL_act) (As := [.ref x, .int (iv 8), .int (iv 2147483647), .int (iv ((-1))), .int (iv 0)]) (rest := []) hC hE hP hD hS hl.1 (A_sector_io l ε hst hH 2147483647 ((-1)) 0 (by decide) (by decide) (by decide) (by omega)) m_4_18 m_4_19 m_0_5 m_4_20 hd_yL_act rfl ⟨⟨by decide, by decide⟩, (Nat.le_of_ble_eq_true rfl), (Nat.le_of_ble_eq_true rfl)⟩ (Nat.le_of_ble_eq_true rfl) rfl dL_refuses_302 kxN (fun v w_9 H locs hq hP hD hS => ?_)
                                            refine W.widen (k := 414) (n := 48388) (Nat.le_of_ble_eq_true rfl) (Nat.le_of_ble_eq_true rfl) ?_
                                            rw [hq.2] at hP hD
                                            rw [hq.1]
                                            dsimp only [Option.toList, List.cons_append, List.nil_append]
                                            refine lv_bipush (pc := 305) (v := iv (-71)) hx hb dL_refuses_305 (by decide) ?_
                                            refine r_icmp_ne (pc := 307) (a := (-71)) (b := (-71)) hx hb dL_refuses_307 (tgt := 406) (by decide) ⟨by omega, by omega⟩ ⟨by omega, by omega⟩ (fun c_307 => ?_) (fun c_307 => ?_)
                                            · exact absurd c_307 (by decide)
                                            · have c_307_ := c_307
                                              refine lv_aload_n (pc := 310) hx hb dL_refuses_310 rfl (lv_at hl 7 rfl) ?_
                                              refine lv_bipush (pc := 311) (v := iv 9) hx hb dL_refuses_311 (by decide) ?_
                                              refine lv_iload (pc := 313) hx hb dL_refuses_313 (lv_at hl 4 rfl) ?_
                                              refine lv_iconst (pc := 315) (v := iv (-1)) hx hb dL_refuses_315 rfl ?_
                                              refine lv_iconst (pc := 316) (v := iv 0) hx hb dL_refuses_316 rfl ?_
                                              refine c_callSW (pc := 317) (y := yL_act) (As := [.ref x, .int (iv 9), .int (iv 2147483647), .int (iv ((-1))), .int (iv 0)]) (rest := []) hC hE hP hD hS hl.1 (A_isSeen_io l ε hst hH 2147483647 ((-1)) 0 (by decide) (by decide) (by decide) (by omega)) m_4_18 m_4_19 m_0_5 m_4_20 hd_yL_act rfl ⟨⟨by decide, by decide⟩, (Nat.le_of_ble_eq_true rfl), (Nat.le_of_ble_eq_true rfl)⟩ (Nat.le_of_ble_eq_true rfl) rfl dL_refuses_317 kxN (fun v w_10 H locs hq hP hD hS => ?_)
                                              refine W.widen (k := 417) (n := 48406) (Nat.le_of_ble_eq_true rfl) (Nat.le_of_ble_eq_true rfl) ?_
                                              rw [hq.2] at hP hD
                                              rw [hq.1]
                                              dsimp only [Option.toList, List.cons_append, List.nil_append]
                                              refine lv_bipush (pc := 320) (v := iv (-71)) hx hb dL_refuses_320 (by decide) ?_
                                              refine r_icmp_ne (pc := 322) (a := (-71)) (b := (-71)) hx hb dL_refuses_322 (tgt := 406) (by decide) ⟨by omega, by omega⟩ ⟨by omega, by omega⟩ (fun c_322 => ?_) (fun c_322 => ?_)
                                              · exact absurd c_322 (by decide)
                                              · have c_322_ := c_322
                                                refine lv_aload_n (pc := 325) hx hb dL_refuses_325 rfl (lv_at hl 7 rfl) ?_
                                                refine lv_bipush (pc := 326) (v := iv 10) hx hb dL_refuses_326 (by decide) ?_
                                                refine lv_iload (pc := 328) hx hb dL_refuses_328 (lv_at hl 4 rfl) ?_
                                                refine lv_iload (pc := 330) hx hb dL_refuses_330 (lv_at hl 4 rfl) ?_
                                                refine lv_iconst (pc := 332) (v := iv 0) hx hb dL_refuses_332 rfl ?_
                                                refine c_callSW (pc := 333) (y := yL_act) (As := [.ref x, .int (iv 10), .int (iv 2147483647), .int (iv 2147483647), .int (iv 0)]) (rest := []) hC hE hP hD hS hl.1 (A_common_io l ε hst hH 2147483647 2147483647 0 (by decide) (by decide) (by decide) (by omega)) m_4_18 m_4_19 m_0_5 m_4_20 hd_yL_act rfl ⟨⟨by decide, by decide⟩, (Nat.le_of_ble_eq_true rfl), (Nat.le_of_ble_eq_true rfl)⟩ (Nat.le_of_ble_eq_true rfl) rfl dL_refuses_333 kxN (fun v w_11 H locs hq hP hD hS => ?_)
                                                refine W.widen (k := 419) (n := 48418) (Nat.le_of_ble_eq_true rfl) (Nat.le_of_ble_eq_true rfl) ?_
                                                rw [hq.2] at hP hD
                                                rw [hq.1]
                                                dsimp only [Option.toList, List.cons_append, List.nil_append]
                                                refine lv_bipush (pc := 336) (v := iv (-71)) hx hb dL_refuses_336 (by decide) ?_
                                                refine r_icmp_ne (pc := 338) (a := (-71)) (b := (-71)) hx hb dL_refuses_338 (tgt := 406) (by decide) ⟨by omega, by omega⟩ ⟨by omega, by omega⟩ (fun c_338 => ?_) (fun c_338 => ?_)
                                                · exact absurd c_338 (by decide)
                                                · have c_338_ := c_338
                                                  refine lv_aload_n (pc := 341) hx hb dL_refuses_341 rfl (lv_at hl 7 rfl) ?_
                                                  refine lv_bipush (pc := 342) (v := iv 12) hx hb dL_refuses_342 (by decide) ?_
                                                  refine lv_iload (pc := 344) hx hb dL_refuses_344 (lv_at hl 3 rfl) ?_
                                                  refine lv_iconst (pc := 346) (v := iv 0) hx hb dL_refuses_346 rfl ?_
                                                  refine lv_iconst (pc := 347) (v := iv 0) hx hb dL_refuses_347 rfl ?_
                                                  refine c_callSW (pc := 348) (y := yL_act) (As := [.ref x, .int (iv 12), .int (iv 2147483647), .int (iv 0), .int (iv 0)]) (rest := []) hC hE hP hD hS hl.1 (A_correct_io l ε hst hH 2147483647 0 0 (by decide) (by decide) (by decide) (by omega)) m_4_18 m_4_19 m_0_5 m_4_20 hd_yL_act rfl ⟨⟨by decide, by decide⟩, (Nat.le_of_ble_eq_true rfl), (Nat.le_of_ble_eq_true rfl)⟩ (Nat.le_of_ble_eq_true rfl) rfl dL_refuses_348 kxN (fun v w_12 H locs hq hP hD hS => ?_)
                                                  refine W.widen (k := 422) (n := 48438) (Nat.le_of_ble_eq_true rfl) (Nat.le_of_ble_eq_true rfl) ?_
                                                  rw [hq.2] at hP hD
                                                  rw [hq.1]
                                                  dsimp only [Option.toList, List.cons_append, List.nil_append]
                                                  refine lv_bipush (pc := 351) (v := iv (-71)) hx hb dL_refuses_351 (by decide) ?_
                                                  refine r_icmp_ne (pc := 353) (a := (-71)) (b := (-71)) hx hb dL_refuses_353 (tgt := 406) (by decide) ⟨by omega, by omega⟩ ⟨by omega, by omega⟩ (fun c_353 => ?_) (fun c_353 => ?_)
                                                  · exact absurd c_353 (by decide)
                                                  · have c_353_ := c_353
                                                    refine lv_aload_n (pc := 356) hx hb dL_refuses_356 rfl (lv_at hl 7 rfl) ?_
                                                    refine lv_bipush (pc := 357) (v := iv 13) hx hb dL_refuses_357 (by decide) ?_
                                                    refine lv_iload (pc := 359) hx hb dL_refuses_359 (lv_at hl 3 rfl) ?_
                                                    refine lv_iconst (pc := 361) (v := iv 0) hx hb dL_refuses_361 rfl ?_
                                                    refine lv_iconst (pc := 362) (v := iv 0) hx hb dL_refuses_362 rfl ?_
                                                    refine c_callSW (pc := 363) (y := yL_act) (As := [.ref x, .int (iv 13), .int (iv 2147483647), .int (iv 0), .int (iv 0)]) (rest := []) hC hE hP hD hS hl.1 (A_behind_io l ε hst hH 2147483647 0 0 (by decide) (by decide) (by decide) (by omega)) m_4_18 m_4_19 m_0_5 m_4_20 hd_yL_act rfl ⟨⟨by decide, by decide⟩, (Nat.le_of_ble_eq_true rfl), (Nat.le_of_ble_eq_true rfl)⟩ (Nat.le_of_ble_eq_true rfl) rfl dL_refuses_363 kxN (fun v w_13 H locs hq hP hD hS => ?_)
                                                    refine W.widen (k := 423) (n := 48444) (Nat.le_of_ble_eq_true rfl) (Nat.le_of_ble_eq_true rfl) ?_
                                                    rw [hq.2] at hP hD
                                                    rw [hq.1]
                                                    dsimp only [Option.toList, List.cons_append, List.nil_append]
                                                    refine lv_bipush (pc := 366) (v := iv (-71)) hx hb dL_refuses_366 (by decide) ?_
                                                    refine r_icmp_ne (pc := 368) (a := (-71)) (b := (-71)) hx hb dL_refuses_368 (tgt := 406) (by decide) ⟨by omega, by omega⟩ ⟨by omega, by omega⟩ (fun c_368 => ?_) (fun c_368 => ?_)
                                                    · exact absurd c_368 (by decide)
                                                    · have c_368_ := c_368
                                                      refine lv_aload_n (pc := 371) hx hb dL_refuses_371 rfl (lv_at hl 7 rfl) ?_
                                                      refine lv_bipush (pc := 372) (v := iv 14) hx hb dL_refuses_372 (by decide) ?_
                                                      refine lv_iload (pc := 374) hx hb dL_refuses_374 (lv_at hl 3 rfl) ?_
                                                      refine lv_iconst (pc := 376) (v := iv 0) hx hb dL_refuses_376 rfl ?_
                                                      refine lv_iconst (pc := 377) (v := iv 0) hx hb dL_refuses_377 rfl ?_
                                                      refine c_callSW (pc := 378) (y := yL_act) (As := [.ref x, .int (iv 14), .int (iv 2147483647), .int (iv 0), .int (iv 0)]) (rest := []) hC hE hP hD hS hl.1 (A_shown_io l ε hst hH 2147483647 0 0 (by decide) (by decide) (by decide) (by omega)) m_4_18 m_4_19 m_0_5 m_4_20 hd_yL_act rfl ⟨⟨by decide, by decide⟩, (Nat.le_of_ble_eq_true rfl), (Nat.le_of_ble_eq_true rfl)⟩ (Nat.le_of_ble_eq_true rfl) rfl dL_refuses_378 kxN (fun v w_14 H locs hq hP hD hS => ?_)
                                                      refine W.widen (k := 425) (n := 48456) (Nat.le_of_ble_eq_true rfl) (Nat.le_of_ble_eq_true rfl) ?_
                                                      rw [hq.2] at hP hD
                                                      rw [hq.1]
                                                      dsimp only [Option.toList, List.cons_append, List.nil_append]
                                                      refine lv_bipush (pc := 381) (v := iv (-71)) hx hb dL_refuses_381 (by decide) ?_
                                                      refine r_icmp_ne (pc := 383) (a := (-71)) (b := (-71)) hx hb dL_refuses_383 (tgt := 406) (by decide) ⟨by omega, by omega⟩ ⟨by omega, by omega⟩ (fun c_383 => ?_) (fun c_383 => ?_)
                                                      · exact absurd c_383 (by decide)
                                                      · have c_383_ := c_383
                                                        refine lv_aload_n (pc := 386) hx hb dL_refuses_386 rfl (lv_at hl 7 rfl) ?_
                                                        refine lv_iload (pc := 387) hx hb dL_refuses_387 (lv_at hl 3 rfl) ?_
                                                        refine lv_iconst (pc := 389) (v := iv (-1)) hx hb dL_refuses_389 rfl ?_
                                                        refine lv_iconst (pc := 390) (v := iv 0) hx hb dL_refuses_390 rfl ?_
                                                        refine lv_iconst (pc := 391) (v := iv 0) hx hb dL_refuses_391 rfl ?_
                                                        refine lv_iconst (pc := 392) (v := iv 0) hx hb dL_refuses_392 rfl ?_
                                                        refine lv_iconst (pc := 393) (v := iv 1) hx hb dL_refuses_393 rfl ?_
                                                        refine c_callSW (pc := 394) (y := yL_taken) (As := [.ref x, .int (iv 2147483647), .int (iv ((-1))), .int (iv 0), .int (iv 0), .int (iv 0), .int (iv 1)]) (rest := []) hC hE hP hD hS hl.1 (A_taken_io l ε hst hH 2147483647 ((-1)) 0 0 0 1 (by decide) (by decide) (by decide) (by decide) (by decide) (by decide) (by omega)) m_15_12 m_15_13 m_0_5 m_15_14 hd_yL_taken rfl ⟨⟨by decide, by decide⟩, (Nat.le_of_ble_eq_true rfl), (Nat.le_of_ble_eq_true rfl)⟩ (Nat.le_of_ble_eq_true rfl) rfl dL_refuses_394 kxN (fun v w_15 H locs hq hP hD hS => ?_)
                                                        refine W.widen (k := 431) (n := 48492) (Nat.le_of_ble_eq_true rfl) (Nat.le_of_ble_eq_true rfl) ?_
                                                        rw [hq.2] at hP hD
                                                        rw [hq.1]
                                                        dsimp only [Option.toList, List.cons_append, List.nil_append]
                                                        refine lv_bipush (pc := 397) (v := iv (-71)) hx hb dL_refuses_397 (by decide) ?_
                                                        refine r_icmp_ne (pc := 399) (a := (-71)) (b := (-71)) hx hb dL_refuses_399 (tgt := 406) (by decide) ⟨by omega, by omega⟩ ⟨by omega, by omega⟩ (fun c_399 => ?_) (fun c_399 => ?_)
                                                        · exact absurd c_399 (by decide)
                                                        · have c_399_ := c_399
                                                          refine lv_iconst (pc := 402) (v := iv 1) hx hb dL_refuses_402 rfl ?_
                                                          refine lv_goto (pc := 403) (tgt := 407) hx hb dL_refuses_403 (by decide) ?_
                                                          refine lv_istore (lv' := [(15, .int (iv 1)), (14, .int (iv 2147483647)), (13, .int (iv 2147483647)), (12, .int (iv 2147483647)), (11, .int (iv 2147483647)), (10, .int (iv 2147483647)), (9, .int (iv 2147483647)), (8, .int (iv 2147483647)), (0, .ref x), (1, .int (iv pa)), (2, .int (iv la)), (3, .int (iv ca)), (4, .int (iv (n 3))), (5, .int (iv (clcB G (n 2).toNat))), (6, .int (iv 2147483647)), (7, .int (iv 2))]) (pc := 407) hx hb dL_refuses_407 hl (by decide) rfl (fun ls hl => ?_)
                                                          refine W.widen (k := 431) (n := 48492) (Nat.le_of_ble_eq_true rfl) (Nat.le_of_ble_eq_true rfl) ?_
                                                          exact hnx _ _ _ _ _ _ _ _ _ hC hE hQ _ _ _ _ rfl hP hD hS (lv_sub hl [8, 9, 10, 11, 12, 13, 14, 15, 7, 6, 5, 4, 3, 2, 1, 0] rfl)
                          · exact absurd c_172 (by decide)
                        · exact absurd c_162 (by decide)
                      · exact absurd c_145 (by decide)
                    · exact absurd c_135 (by decide)
                  · exact absurd c_121 (by decide)
                · exact absurd c_111 (by decide)
              · exact absurd c_97 (by decide)
            · exact absurd c_83 (by decide)
          · exact absurd c_69 (by decide)
        · exact absurd c_55 (by decide)
    · exact absurd c_27 (by decide)
set_option maxRecDepth 100000 in
set_option maxHeartbeats 8000000 in
theorem sr_14 (l : Launch) (ε : EV) (hst : l.stackTraces = false) {x : Nat} {n : Nat → Int} {G : Nat → Nat → Int} {w : va_W} (hHw : HS ε x n G w) (pa la ca : Int) (hpa : pa = n 1) (hla : la = n 2) (hca : ca = n 4) (h3 : n 3 < 512) (hnx : SEG l ε yL_refuses cL_refuses 16 rm_A_refuses (fun v z => v = some (.int (iv 1)) ∧ z = w) 513 491 61716 [(0, .ref x), (1, .int (iv pa)), (2, .int (iv la)), (3, .int (iv ca)), (4, .int (iv (n 3))), (5, .int (iv (clcB G (n 2).toNat))), (6, .int (iv 2147483647)), (7, .int (iv 2)), (8, .int (iv 2147483647)), (9, .int (iv 2147483647)), (10, .int (iv 2147483647)), (11, .int (iv 2147483647)), (12, .int (iv 2147483647)), (13, .int (iv 2147483647)), (14, .int (iv 2147483647)), (15, .int (iv 1))] (fun z => z = w)) : SEG l ε yL_refuses cL_refuses 16 rm_A_refuses (fun v z => v = some (.int (iv 1)) ∧ z = w) 409 431 48492 [(0, .ref x), (1, .int (iv pa)), (2, .int (iv la)), (3, .int (iv ca)), (4, .int (iv (n 3))), (5, .int (iv (clcB G (n 2).toNat))), (6, .int (iv 2147483647)), (7, .int (iv 2)), (8, .int (iv 2147483647)), (9, .int (iv 2147483647)), (10, .int (iv 2147483647)), (11, .int (iv 2147483647)), (12, .int (iv 2147483647)), (13, .int (iv 2147483647)), (14, .int (iv 2147483647)), (15, .int (iv 1))] (fun z => z = w) := by
  intro p9 e9 s9 m9 a9 bl9 me9 c9 Q9 hC hE hQ H locs ls w9 hH hP hD hS hl
  have hx := hC.1
  have hb := hC.2.1
  have hK := hE.K
  subst hH
  have hH := hHw
  obtain ⟨fo, hob⟩ := hH.ob
  have hI := hH.inv
  have hN := hI.NB
  have hlp := lamp_patt hI
  refine lv_iload_n (pc := 409) hx hb dL_refuses_409 rfl (lv_at hl 1 rfl) ?_
  refine r_if_le (pc := 410) (a := pa) hx hb dL_refuses_410 (tgt := 513) (by decide) ⟨by omega, by omega⟩ (fun c_410 => ?_) (fun c_410 => ?_)
  · have c_410_ := c_410
    refine W.widen (k := 491) (n := 61716) (Nat.le_of_ble_eq_true rfl) (Nat.le_of_ble_eq_true rfl) ?_
    exact hnx _ _ _ _ _ _ _ _ _ hC hE hQ _ _ _ _ rfl hP hD hS (lv_sub hl [0, 1, 2, 3, 4, 5, 6, 7, 8, 9, 10, 11, 12, 13, 14, 15] rfl)
  · have c_410_ := c_410
    refine lv_iload (pc := 413) hx hb dL_refuses_413 (lv_at hl 15 rfl) ?_
    refine r_if_eq (pc := 415) (a := 1) hx hb dL_refuses_415 (tgt := 510) (by decide) ⟨by omega, by omega⟩ (fun c_415 => ?_) (fun c_415 => ?_)
    · exact absurd c_415 (by decide)
    · have c_415_ := c_415
      refine lv_aload_n (pc := 418) hx hb dL_refuses_418 rfl (lv_at hl 0 rfl) ?_
      refine lv_iconst (pc := 419) (v := iv 3) hx hb dL_refuses_419 rfl ?_
      refine lv_iconst (pc := 420) (v := iv 0) hx hb dL_refuses_420 rfl ?_
      refine lv_iload (pc := 421) hx hb dL_refuses_421 (lv_at hl 9 rfl) ?_
      refine lv_iconst (pc := 423) (v := iv 0) hx hb dL_refuses_423 rfl ?_
      refine c_callSW (pc := 424) (y := yL_act) (As := [.ref x, .int (iv 3), .int (iv 0), .int (iv 2147483647), .int (iv 0)]) (rest := []) hC hE hP hD hS hl.1 (A_alike_io l ε hst hH 0 2147483647 0 (by decide) (by decide) (by decide) (by omega)) m_4_18 m_4_19 m_0_5 m_4_20 hd_yL_act rfl ⟨⟨by decide, by decide⟩, (Nat.le_of_ble_eq_true rfl), (Nat.le_of_ble_eq_true rfl)⟩ (Nat.le_of_ble_eq_true rfl) rfl dL_refuses_424 kxN (fun v w_1 H locs hq hP hD hS => ?_)
      refine W.widen (k := 433) (n := 48504) (Nat.le_of_ble_eq_true rfl) (Nat.le_of_ble_eq_true rfl) ?_
      rw [hq.2] at hP hD
      rw [hq.1]
      dsimp only [Option.toList, List.cons_append, List.nil_append]
      refine lv_bipush (pc := 427) (v := iv (-71)) hx hb dL_refuses_427 (by decide) ?_
      refine r_icmp_ne (pc := 429) (a := (-71)) (b := (-71)) hx hb dL_refuses_429 (tgt := 510) (by decide) ⟨by omega, by omega⟩ ⟨by omega, by omega⟩ (fun c_429 => ?_) (fun c_429 => ?_)
      · exact absurd c_429 (by decide)
      · have c_429_ := c_429
        refine lv_aload_n (pc := 432) hx hb dL_refuses_432 rfl (lv_at hl 0 rfl) ?_
        refine lv_iconst (pc := 433) (v := iv 4) hx hb dL_refuses_433 rfl ?_
        refine lv_iconst (pc := 434) (v := iv 0) hx hb dL_refuses_434 rfl ?_
        refine lv_iload (pc := 435) hx hb dL_refuses_435 (lv_at hl 9 rfl) ?_
        refine lv_iconst (pc := 437) (v := iv 0) hx hb dL_refuses_437 rfl ?_
        refine c_callSW (pc := 438) (y := yL_act) (As := [.ref x, .int (iv 4), .int (iv 0), .int (iv 2147483647), .int (iv 0)]) (rest := []) hC hE hP hD hS hl.1 (A_alikes_io l ε hst hH 0 2147483647 0 (by decide) (by decide) (by decide) (by omega)) m_4_18 m_4_19 m_0_5 m_4_20 hd_yL_act rfl ⟨⟨by decide, by decide⟩, (Nat.le_of_ble_eq_true rfl), (Nat.le_of_ble_eq_true rfl)⟩ (Nat.le_of_ble_eq_true rfl) rfl dL_refuses_438 kxN (fun v w_2 H locs hq hP hD hS => ?_)
        refine W.widen (k := 435) (n := 48516) (Nat.le_of_ble_eq_true rfl) (Nat.le_of_ble_eq_true rfl) ?_
        rw [hq.2] at hP hD
        rw [hq.1]
        dsimp only [Option.toList, List.cons_append, List.nil_append]
        refine lv_bipush (pc := 441) (v := iv (-71)) hx hb dL_refuses_441 (by decide) ?_
        refine r_icmp_ne (pc := 443) (a := (-71)) (b := (-71)) hx hb dL_refuses_443 (tgt := 510) (by decide) ⟨by omega, by omega⟩ ⟨by omega, by omega⟩ (fun c_443 => ?_) (fun c_443 => ?_)
        · exact absurd c_443 (by decide)
        · have c_443_ := c_443
          refine lv_aload_n (pc := 446) hx hb dL_refuses_446 rfl (lv_at hl 0 rfl) ?_
          refine lv_iload (pc := 447) hx hb dL_refuses_447 (lv_at hl 12 rfl) ?_
          refine lv_iconst (pc := 449) (v := iv 0) hx hb dL_refuses_449 rfl ?_
          refine lv_iconst (pc := 450) (v := iv 0) hx hb dL_refuses_450 rfl ?_
          refine lv_iconst (pc := 451) (v := iv 5) hx hb dL_refuses_451 rfl ?_
          refine lv_iconst (pc := 452) (v := iv 5) hx hb dL_refuses_452 rfl ?_
          refine c_callSW (pc := 453) (y := yL_lamp) (As := [.ref x, .int (iv 2147483647), .int (iv 0), .int (iv 0), .int (iv 5), .int (iv 5)]) (rest := []) hC hE hP hD hS hl.1 (A_lamp_ia l ε hst hH 2147483647 0 0 5 5 (by decide) (by decide) (by decide) (by decide) (by decide) h3 (by omega)) m_14_15 m_14_16 m_0_5 m_14_17 hd_yL_lamp rfl ⟨⟨by decide, by decide⟩, (Nat.le_of_ble_eq_true rfl), (Nat.le_of_ble_eq_true rfl)⟩ (Nat.le_of_ble_eq_true rfl) rfl dL_refuses_453 kxN (fun v w_3 H locs hq hP hD hS => ?_)
          refine W.widen (k := 449) (n := 51816) (Nat.le_of_ble_eq_true rfl) (Nat.le_of_ble_eq_true rfl) ?_
          rw [hq.2] at hP hD
          rw [hq.1]
          dsimp only [Option.toList, List.cons_append, List.nil_append]
          refine lv_bipush (pc := 456) (v := iv (-72)) hx hb dL_refuses_456 (by decide) ?_
          refine r_icmp_ne (pc := 458) (a := (-72)) (b := (-72)) hx hb dL_refuses_458 (tgt := 510) (by decide) ⟨by omega, by omega⟩ ⟨by omega, by omega⟩ (fun c_458 => ?_) (fun c_458 => ?_)
          · exact absurd c_458 (by decide)
          · have c_458_ := c_458
            refine lv_aload_n (pc := 461) hx hb dL_refuses_461 rfl (lv_at hl 0 rfl) ?_
            refine lv_iconst (pc := 462) (v := iv 0) hx hb dL_refuses_462 rfl ?_
            refine lv_iload (pc := 463) hx hb dL_refuses_463 (lv_at hl 12 rfl) ?_
            refine lv_iconst (pc := 465) (v := iv 0) hx hb dL_refuses_465 rfl ?_
            refine lv_iconst (pc := 466) (v := iv 5) hx hb dL_refuses_466 rfl ?_
            refine lv_iconst (pc := 467) (v := iv 5) hx hb dL_refuses_467 rfl ?_
            refine c_callSW (pc := 468) (y := yL_lamp) (As := [.ref x, .int (iv 0), .int (iv 2147483647), .int (iv 0), .int (iv 5), .int (iv 5)]) (rest := []) hC hE hP hD hS hl.1 (A_lamp_ia l ε hst hH 0 2147483647 0 5 5 (by decide) (by decide) (by decide) (by decide) (by decide) h3 (by omega)) m_14_15 m_14_16 m_0_5 m_14_17 hd_yL_lamp rfl ⟨⟨by decide, by decide⟩, (Nat.le_of_ble_eq_true rfl), (Nat.le_of_ble_eq_true rfl)⟩ (Nat.le_of_ble_eq_true rfl) rfl dL_refuses_468 kxN (fun v w_4 H locs hq hP hD hS => ?_)
            refine W.widen (k := 463) (n := 55116) (Nat.le_of_ble_eq_true rfl) (Nat.le_of_ble_eq_true rfl) ?_
            rw [hq.2] at hP hD
            rw [hq.1]
            dsimp only [Option.toList, List.cons_append, List.nil_append]
            refine lv_bipush (pc := 471) (v := iv (-72)) hx hb dL_refuses_471 (by decide) ?_
            refine r_icmp_ne (pc := 473) (a := (-72)) (b := (-72)) hx hb dL_refuses_473 (tgt := 510) (by decide) ⟨by omega, by omega⟩ ⟨by omega, by omega⟩ (fun c_473 => ?_) (fun c_473 => ?_)
            · exact absurd c_473 (by decide)
            · have c_473_ := c_473
              refine lv_aload_n (pc := 476) hx hb dL_refuses_476 rfl (lv_at hl 0 rfl) ?_
              refine lv_iconst (pc := 477) (v := iv 0) hx hb dL_refuses_477 rfl ?_
              refine lv_iconst (pc := 478) (v := iv 0) hx hb dL_refuses_478 rfl ?_
              refine lv_iconst (pc := 479) (v := iv 0) hx hb dL_refuses_479 rfl ?_
              refine lv_iload (pc := 480) hx hb dL_refuses_480 (lv_at hl 13 rfl) ?_
              refine lv_iconst (pc := 482) (v := iv 5) hx hb dL_refuses_482 rfl ?_
              refine c_callSW (pc := 483) (y := yL_lamp) (As := [.ref x, .int (iv 0), .int (iv 0), .int (iv 0), .int (iv 2147483647), .int (iv 5)]) (rest := []) hC hE hP hD hS hl.1 (A_lamp_ia l ε hst hH 0 0 0 2147483647 5 (by decide) (by decide) (by decide) (by decide) (by decide) h3 (by omega)) m_14_15 m_14_16 m_0_5 m_14_17 hd_yL_lamp rfl ⟨⟨by decide, by decide⟩, (Nat.le_of_ble_eq_true rfl), (Nat.le_of_ble_eq_true rfl)⟩ (Nat.le_of_ble_eq_true rfl) rfl dL_refuses_483 kxN (fun v w_5 H locs hq hP hD hS => ?_)
              refine W.widen (k := 477) (n := 58416) (Nat.le_of_ble_eq_true rfl) (Nat.le_of_ble_eq_true rfl) ?_
              rw [hq.2] at hP hD
              rw [hq.1]
              dsimp only [Option.toList, List.cons_append, List.nil_append]
              refine lv_bipush (pc := 486) (v := iv (-72)) hx hb dL_refuses_486 (by decide) ?_
              refine r_icmp_ne (pc := 488) (a := (-72)) (b := (-72)) hx hb dL_refuses_488 (tgt := 510) (by decide) ⟨by omega, by omega⟩ ⟨by omega, by omega⟩ (fun c_488 => ?_) (fun c_488 => ?_)
              · exact absurd c_488 (by decide)
              · have c_488_ := c_488
                refine lv_aload_n (pc := 491) hx hb dL_refuses_491 rfl (lv_at hl 0 rfl) ?_
                refine lv_iconst (pc := 492) (v := iv 0) hx hb dL_refuses_492 rfl ?_
                refine lv_iconst (pc := 493) (v := iv 0) hx hb dL_refuses_493 rfl ?_
                refine lv_iconst (pc := 494) (v := iv 0) hx hb dL_refuses_494 rfl ?_
                refine lv_iconst (pc := 495) (v := iv 5) hx hb dL_refuses_495 rfl ?_
                refine lv_iload (pc := 496) hx hb dL_refuses_496 (lv_at hl 14 rfl) ?_
                refine c_callSW (pc := 498) (y := yL_lamp) (As := [.ref x, .int (iv 0), .int (iv 0), .int (iv 0), .int (iv 5), .int (iv 2147483647)]) (rest := []) hC hE hP hD hS hl.1 (A_lamp_ia l ε hst hH 0 0 0 5 2147483647 (by decide) (by decide) (by decide) (by decide) (by decide) h3 (by omega)) m_14_15 m_14_16 m_0_5 m_14_17 hd_yL_lamp rfl ⟨⟨by decide, by decide⟩, (Nat.le_of_ble_eq_true rfl), (Nat.le_of_ble_eq_true rfl)⟩ (Nat.le_of_ble_eq_true rfl) rfl dL_refuses_498 kxN (fun v w_6 H locs hq hP hD hS => ?_)
                refine W.widen (k := 491) (n := 61716) (Nat.le_of_ble_eq_true rfl) (Nat.le_of_ble_eq_true rfl) ?_
                rw [hq.2] at hP hD
                rw [hq.1]
                dsimp only [Option.toList, List.cons_append, List.nil_append]
                refine lv_bipush (pc := 501) (v := iv (-72)) hx hb dL_refuses_501 (by decide) ?_
                refine r_icmp_ne (pc := 503) (a := (-72)) (b := (-72)) hx hb dL_refuses_503 (tgt := 510) (by decide) ⟨by omega, by omega⟩ ⟨by omega, by omega⟩ (fun c_503 => ?_) (fun c_503 => ?_)
                · exact absurd c_503 (by decide)
                · have c_503_ := c_503
                  refine lv_iconst (pc := 506) (v := iv 1) hx hb dL_refuses_506 rfl ?_
                  refine lv_goto (pc := 507) (tgt := 511) hx hb dL_refuses_507 (by decide) ?_
                  refine lv_istore (lv' := [(15, .int (iv 1)), (0, .ref x), (1, .int (iv pa)), (2, .int (iv la)), (3, .int (iv ca)), (4, .int (iv (n 3))), (5, .int (iv (clcB G (n 2).toNat))), (6, .int (iv 2147483647)), (7, .int (iv 2)), (8, .int (iv 2147483647)), (9, .int (iv 2147483647)), (10, .int (iv 2147483647)), (11, .int (iv 2147483647)), (12, .int (iv 2147483647)), (13, .int (iv 2147483647)), (14, .int (iv 2147483647))]) (pc := 511) hx hb dL_refuses_511 hl (by decide) rfl (fun ls hl => ?_)
                  refine W.widen (k := 491) (n := 61716) (Nat.le_of_ble_eq_true rfl) (Nat.le_of_ble_eq_true rfl) ?_
                  exact hnx _ _ _ _ _ _ _ _ _ hC hE hQ _ _ _ _ rfl hP hD hS (lv_sub hl [1, 2, 3, 4, 5, 6, 7, 8, 9, 10, 11, 12, 13, 14, 15, 0] rfl)
set_option maxRecDepth 100000 in
set_option maxHeartbeats 8000000 in
theorem sr_15 (l : Launch) (ε : EV) (hst : l.stackTraces = false) {x : Nat} {n : Nat → Int} {G : Nat → Nat → Int} {w : va_W} (hHw : HS ε x n G w) (pa la ca : Int) (hpa : pa = n 1) (hla : la = n 2) (hca : ca = n 4) (h3 : n 3 < 512) (hnx : SEG l ε yL_refuses cL_refuses 16 rm_A_refuses (fun v z => v = some (.int (iv 1)) ∧ z = w) 669 523 64012 [(0, .ref x), (1, .int (iv pa)), (2, .int (iv la)), (3, .int (iv ca)), (4, .int (iv (n 3))), (5, .int (iv (clcB G (n 2).toNat))), (6, .int (iv 2147483647)), (7, .int (iv 2)), (8, .int (iv 2147483647)), (9, .int (iv 2147483647)), (10, .int (iv 2147483647)), (11, .int (iv 2147483647)), (12, .int (iv 2147483647)), (13, .int (iv 2147483647)), (14, .int (iv 2147483647)), (15, .int (iv 1))] (fun z => z = w)) : SEG l ε yL_refuses cL_refuses 16 rm_A_refuses (fun v z => v = some (.int (iv 1)) ∧ z = w) 513 491 61716 [(0, .ref x), (1, .int (iv pa)), (2, .int (iv la)), (3, .int (iv ca)), (4, .int (iv (n 3))), (5, .int (iv (clcB G (n 2).toNat))), (6, .int (iv 2147483647)), (7, .int (iv 2)), (8, .int (iv 2147483647)), (9, .int (iv 2147483647)), (10, .int (iv 2147483647)), (11, .int (iv 2147483647)), (12, .int (iv 2147483647)), (13, .int (iv 2147483647)), (14, .int (iv 2147483647)), (15, .int (iv 1))] (fun z => z = w) := by
  intro p9 e9 s9 m9 a9 bl9 me9 c9 Q9 hC hE hQ H locs ls w9 hH hP hD hS hl
  have hx := hC.1
  have hb := hC.2.1
  have hK := hE.K
  subst hH
  have hH := hHw
  obtain ⟨fo, hob⟩ := hH.ob
  have hI := hH.inv
  have hN := hI.NB
  have hlp := lamp_patt hI
  refine lv_iload_n (pc := 513) hx hb dL_refuses_513 rfl (lv_at hl 2 rfl) ?_
  refine r_if_le (pc := 514) (a := la) hx hb dL_refuses_514 (tgt := 669) (by decide) ⟨by omega, by omega⟩ (fun c_514 => ?_) (fun c_514 => ?_)
  · have c_514_ := c_514
    refine W.widen (k := 523) (n := 64012) (Nat.le_of_ble_eq_true rfl) (Nat.le_of_ble_eq_true rfl) ?_
    exact hnx _ _ _ _ _ _ _ _ _ hC hE hQ _ _ _ _ rfl hP hD hS (lv_sub hl [0, 1, 2, 3, 4, 5, 6, 7, 8, 9, 10, 11, 12, 13, 14, 15] rfl)
  · have c_514_ := c_514
    refine lv_iload (pc := 517) hx hb dL_refuses_517 (lv_at hl 15 rfl) ?_
    refine r_if_eq (pc := 519) (a := 1) hx hb dL_refuses_519 (tgt := 666) (by decide) ⟨by omega, by omega⟩ (fun c_519 => ?_) (fun c_519 => ?_)
    · exact absurd c_519 (by decide)
    · have c_519_ := c_519
      refine lv_aload_n (pc := 522) hx hb dL_refuses_522 rfl (lv_at hl 0 rfl) ?_
      refine lv_iconst (pc := 523) (v := iv 5) hx hb dL_refuses_523 rfl ?_
      refine lv_iconst (pc := 524) (v := iv 0) hx hb dL_refuses_524 rfl ?_
      refine lv_iload (pc := 525) hx hb dL_refuses_525 (lv_at hl 9 rfl) ?_
      refine lv_iconst (pc := 527) (v := iv (-1)) hx hb dL_refuses_527 rfl ?_
      refine c_callSW (pc := 528) (y := yL_act) (As := [.ref x, .int (iv 5), .int (iv 0), .int (iv 2147483647), .int (iv ((-1)))]) (rest := []) hC hE hP hD hS hl.1 (A_change_io l ε hst hH 0 2147483647 ((-1)) (by decide) (by decide) (by decide) h3 (by omega)) m_4_18 m_4_19 m_0_5 m_4_20 hd_yL_act rfl ⟨⟨by decide, by decide⟩, (Nat.le_of_ble_eq_true rfl), (Nat.le_of_ble_eq_true rfl)⟩ (Nat.le_of_ble_eq_true rfl) rfl dL_refuses_528 kxN (fun v w_1 H locs hq hP hD hS => ?_)
      refine W.widen (k := 499) (n := 62816) (Nat.le_of_ble_eq_true rfl) (Nat.le_of_ble_eq_true rfl) ?_
      rw [hq.2] at hP hD
      rw [hq.1]
      dsimp only [Option.toList, List.cons_append, List.nil_append]
      refine lv_bipush (pc := 531) (v := iv (-71)) hx hb dL_refuses_531 (by decide) ?_
      refine r_icmp_ne (pc := 533) (a := (-71)) (b := (-71)) hx hb dL_refuses_533 (tgt := 666) (by decide) ⟨by omega, by omega⟩ ⟨by omega, by omega⟩ (fun c_533 => ?_) (fun c_533 => ?_)
      · exact absurd c_533 (by decide)
      · have c_533_ := c_533
        refine lv_aload_n (pc := 536) hx hb dL_refuses_536 rfl (lv_at hl 0 rfl) ?_
        refine lv_iconst (pc := 537) (v := iv 5) hx hb dL_refuses_537 rfl ?_
        refine lv_iconst (pc := 538) (v := iv 0) hx hb dL_refuses_538 rfl ?_
        refine lv_iconst (pc := 539) (v := iv 0) hx hb dL_refuses_539 rfl ?_
        refine lv_iload (pc := 540) hx hb dL_refuses_540 (lv_at hl 7 rfl) ?_
        refine lv_iconst (pc := 542) (v := iv 1) hx hb dL_refuses_542 rfl ?_
        refine r_icmp_ne (pc := 543) (a := 2) (b := 1) hx hb dL_refuses_543 (tgt := 551) (by decide) ⟨by omega, by omega⟩ ⟨by omega, by omega⟩ (fun c_543 => ?_) (fun c_543 => ?_)
        · have c_543_ := c_543
          refine lv_iload (pc := 551) hx hb dL_refuses_551 (lv_at hl 8 rfl) ?_
          refine c_callSW (pc := 553) (y := yL_act) (As := [.ref x, .int (iv 5), .int (iv 0), .int (iv 0), .int (iv 2147483647)]) (rest := []) hC hE hP hD hS hl.1 (A_change_ia l ε hst hH 0 0 2147483647 (by decide) (by decide) (by decide) h3 (by omega)) m_4_18 m_4_19 m_0_5 m_4_20 hd_yL_act rfl ⟨⟨by decide, by decide⟩, (Nat.le_of_ble_eq_true rfl), (Nat.le_of_ble_eq_true rfl)⟩ (Nat.le_of_ble_eq_true rfl) rfl dL_refuses_553 kxN (fun v w_2 H locs hq hP hD hS => ?_)
          refine W.widen (k := 507) (n := 63916) (Nat.le_of_ble_eq_true rfl) (Nat.le_of_ble_eq_true rfl) ?_
          rw [hq.2] at hP hD
          rw [hq.1]
          dsimp only [Option.toList, List.cons_append, List.nil_append]
          refine lv_bipush (pc := 556) (v := iv (-72)) hx hb dL_refuses_556 (by decide) ?_
          refine r_icmp_ne (pc := 558) (a := (-72)) (b := (-72)) hx hb dL_refuses_558 (tgt := 666) (by decide) ⟨by omega, by omega⟩ ⟨by omega, by omega⟩ (fun c_558 => ?_) (fun c_558 => ?_)
          · exact absurd c_558 (by decide)
          · have c_558_ := c_558
            refine lv_aload_n (pc := 561) hx hb dL_refuses_561 rfl (lv_at hl 0 rfl) ?_
            refine lv_bipush (pc := 562) (v := iv 7) hx hb dL_refuses_562 (by decide) ?_
            refine lv_iconst (pc := 564) (v := iv 0) hx hb dL_refuses_564 rfl ?_
            refine lv_iload (pc := 565) hx hb dL_refuses_565 (lv_at hl 7 rfl) ?_
            refine lv_iconst (pc := 567) (v := iv 1) hx hb dL_refuses_567 rfl ?_
            refine r_icmp_ne (pc := 568) (a := 2) (b := 1) hx hb dL_refuses_568 (tgt := 576) (by decide) ⟨by omega, by omega⟩ ⟨by omega, by omega⟩ (fun c_568 => ?_) (fun c_568 => ?_)
            · have c_568_ := c_568
              refine lv_iload (pc := 576) hx hb dL_refuses_576 (lv_at hl 8 rfl) ?_
              refine lv_iconst (pc := 578) (v := iv 0) hx hb dL_refuses_578 rfl ?_
              refine c_callSW (pc := 579) (y := yL_act) (As := [.ref x, .int (iv 7), .int (iv 0), .int (iv 2147483647), .int (iv 0)]) (rest := []) hC hE hP hD hS hl.1 (A_shines_ia l ε hst hH 0 2147483647 0 (by decide) (by decide) (by decide) (by omega)) m_4_18 m_4_19 m_0_5 m_4_20 hd_yL_act rfl ⟨⟨by decide, by decide⟩, (Nat.le_of_ble_eq_true rfl), (Nat.le_of_ble_eq_true rfl)⟩ (Nat.le_of_ble_eq_true rfl) rfl dL_refuses_579 kxN (fun v w_3 H locs hq hP hD hS => ?_)
              refine W.widen (k := 509) (n := 63928) (Nat.le_of_ble_eq_true rfl) (Nat.le_of_ble_eq_true rfl) ?_
              rw [hq.2] at hP hD
              rw [hq.1]
              dsimp only [Option.toList, List.cons_append, List.nil_append]
              refine lv_bipush (pc := 582) (v := iv (-72)) hx hb dL_refuses_582 (by decide) ?_
              refine r_icmp_ne (pc := 584) (a := (-72)) (b := (-72)) hx hb dL_refuses_584 (tgt := 666) (by decide) ⟨by omega, by omega⟩ ⟨by omega, by omega⟩ (fun c_584 => ?_) (fun c_584 => ?_)
              · exact absurd c_584 (by decide)
              · have c_584_ := c_584
                refine lv_aload_n (pc := 587) hx hb dL_refuses_587 rfl (lv_at hl 0 rfl) ?_
                refine lv_bipush (pc := 588) (v := iv 8) hx hb dL_refuses_588 (by decide) ?_
                refine lv_iconst (pc := 590) (v := iv 0) hx hb dL_refuses_590 rfl ?_
                refine lv_iload (pc := 591) hx hb dL_refuses_591 (lv_at hl 12 rfl) ?_
                refine lv_iconst (pc := 593) (v := iv 0) hx hb dL_refuses_593 rfl ?_
                refine c_callSW (pc := 594) (y := yL_act) (As := [.ref x, .int (iv 8), .int (iv 0), .int (iv 2147483647), .int (iv 0)]) (rest := []) hC hE hP hD hS hl.1 (A_sector_ia l ε hst hH 0 2147483647 0 (by decide) (by decide) (by decide) (by omega)) m_4_18 m_4_19 m_0_5 m_4_20 hd_yL_act rfl ⟨⟨by decide, by decide⟩, (Nat.le_of_ble_eq_true rfl), (Nat.le_of_ble_eq_true rfl)⟩ (Nat.le_of_ble_eq_true rfl) rfl dL_refuses_594 kxN (fun v w_4 H locs hq hP hD hS => ?_)
                refine W.widen (k := 512) (n := 63946) (Nat.le_of_ble_eq_true rfl) (Nat.le_of_ble_eq_true rfl) ?_
                rw [hq.2] at hP hD
                rw [hq.1]
                dsimp only [Option.toList, List.cons_append, List.nil_append]
                refine lv_bipush (pc := 597) (v := iv (-72)) hx hb dL_refuses_597 (by decide) ?_
                refine r_icmp_ne (pc := 599) (a := (-72)) (b := (-72)) hx hb dL_refuses_599 (tgt := 666) (by decide) ⟨by omega, by omega⟩ ⟨by omega, by omega⟩ (fun c_599 => ?_) (fun c_599 => ?_)
                · exact absurd c_599 (by decide)
                · have c_599_ := c_599
                  refine lv_aload_n (pc := 602) hx hb dL_refuses_602 rfl (lv_at hl 0 rfl) ?_
                  refine lv_bipush (pc := 603) (v := iv 8) hx hb dL_refuses_603 (by decide) ?_
                  refine lv_iconst (pc := 605) (v := iv 0) hx hb dL_refuses_605 rfl ?_
                  refine lv_iconst (pc := 606) (v := iv 0) hx hb dL_refuses_606 rfl ?_
                  refine lv_iload (pc := 607) hx hb dL_refuses_607 (lv_at hl 12 rfl) ?_
                  refine c_callSW (pc := 609) (y := yL_act) (As := [.ref x, .int (iv 8), .int (iv 0), .int (iv 0), .int (iv 2147483647)]) (rest := []) hC hE hP hD hS hl.1 (A_sector_ia l ε hst hH 0 0 2147483647 (by decide) (by decide) (by decide) (by omega)) m_4_18 m_4_19 m_0_5 m_4_20 hd_yL_act rfl ⟨⟨by decide, by decide⟩, (Nat.le_of_ble_eq_true rfl), (Nat.le_of_ble_eq_true rfl)⟩ (Nat.le_of_ble_eq_true rfl) rfl dL_refuses_609 kxN (fun v w_5 H locs hq hP hD hS => ?_)
                  refine W.widen (k := 515) (n := 63964) (Nat.le_of_ble_eq_true rfl) (Nat.le_of_ble_eq_true rfl) ?_
                  rw [hq.2] at hP hD
                  rw [hq.1]
                  dsimp only [Option.toList, List.cons_append, List.nil_append]
                  refine lv_bipush (pc := 612) (v := iv (-72)) hx hb dL_refuses_612 (by decide) ?_
                  refine r_icmp_ne (pc := 614) (a := (-72)) (b := (-72)) hx hb dL_refuses_614 (tgt := 666) (by decide) ⟨by omega, by omega⟩ ⟨by omega, by omega⟩ (fun c_614 => ?_) (fun c_614 => ?_)
                  · exact absurd c_614 (by decide)
                  · have c_614_ := c_614
                    refine lv_aload_n (pc := 617) hx hb dL_refuses_617 rfl (lv_at hl 0 rfl) ?_
                    refine lv_bipush (pc := 618) (v := iv 9) hx hb dL_refuses_618 (by decide) ?_
                    refine lv_iconst (pc := 620) (v := iv 0) hx hb dL_refuses_620 rfl ?_
                    refine lv_iload (pc := 621) hx hb dL_refuses_621 (lv_at hl 12 rfl) ?_
                    refine lv_iconst (pc := 623) (v := iv 0) hx hb dL_refuses_623 rfl ?_
                    refine c_callSW (pc := 624) (y := yL_act) (As := [.ref x, .int (iv 9), .int (iv 0), .int (iv 2147483647), .int (iv 0)]) (rest := []) hC hE hP hD hS hl.1 (A_isSeen_ia l ε hst hH 0 2147483647 0 (by decide) (by decide) (by decide) (by omega)) m_4_18 m_4_19 m_0_5 m_4_20 hd_yL_act rfl ⟨⟨by decide, by decide⟩, (Nat.le_of_ble_eq_true rfl), (Nat.le_of_ble_eq_true rfl)⟩ (Nat.le_of_ble_eq_true rfl) rfl dL_refuses_624 kxN (fun v w_6 H locs hq hP hD hS => ?_)
                    refine W.widen (k := 518) (n := 63982) (Nat.le_of_ble_eq_true rfl) (Nat.le_of_ble_eq_true rfl) ?_
                    rw [hq.2] at hP hD
                    rw [hq.1]
                    dsimp only [Option.toList, List.cons_append, List.nil_append]
                    refine lv_bipush (pc := 627) (v := iv (-72)) hx hb dL_refuses_627 (by decide) ?_
                    refine r_icmp_ne (pc := 629) (a := (-72)) (b := (-72)) hx hb dL_refuses_629 (tgt := 666) (by decide) ⟨by omega, by omega⟩ ⟨by omega, by omega⟩ (fun c_629 => ?_) (fun c_629 => ?_)
                    · exact absurd c_629 (by decide)
                    · have c_629_ := c_629
                      refine lv_aload_n (pc := 632) hx hb dL_refuses_632 rfl (lv_at hl 0 rfl) ?_
                      refine lv_bipush (pc := 633) (v := iv 9) hx hb dL_refuses_633 (by decide) ?_
                      refine lv_iconst (pc := 635) (v := iv 0) hx hb dL_refuses_635 rfl ?_
                      refine lv_iconst (pc := 636) (v := iv 0) hx hb dL_refuses_636 rfl ?_
                      refine lv_iload (pc := 637) hx hb dL_refuses_637 (lv_at hl 12 rfl) ?_
                      refine c_callSW (pc := 639) (y := yL_act) (As := [.ref x, .int (iv 9), .int (iv 0), .int (iv 0), .int (iv 2147483647)]) (rest := []) hC hE hP hD hS hl.1 (A_isSeen_ia l ε hst hH 0 0 2147483647 (by decide) (by decide) (by decide) (by omega)) m_4_18 m_4_19 m_0_5 m_4_20 hd_yL_act rfl ⟨⟨by decide, by decide⟩, (Nat.le_of_ble_eq_true rfl), (Nat.le_of_ble_eq_true rfl)⟩ (Nat.le_of_ble_eq_true rfl) rfl dL_refuses_639 kxN (fun v w_7 H locs hq hP hD hS => ?_)
                      refine W.widen (k := 521) (n := 64000) (Nat.le_of_ble_eq_true rfl) (Nat.le_of_ble_eq_true rfl) ?_
                      rw [hq.2] at hP hD
                      rw [hq.1]
                      dsimp only [Option.toList, List.cons_append, List.nil_append]
                      refine lv_bipush (pc := 642) (v := iv (-72)) hx hb dL_refuses_642 (by decide) ?_
                      refine r_icmp_ne (pc := 644) (a := (-72)) (b := (-72)) hx hb dL_refuses_644 (tgt := 666) (by decide) ⟨by omega, by omega⟩ ⟨by omega, by omega⟩ (fun c_644 => ?_) (fun c_644 => ?_)
                      · exact absurd c_644 (by decide)
                      · have c_644_ := c_644
                        refine lv_aload_n (pc := 647) hx hb dL_refuses_647 rfl (lv_at hl 0 rfl) ?_
                        refine lv_bipush (pc := 648) (v := iv 10) hx hb dL_refuses_648 (by decide) ?_
                        refine lv_iconst (pc := 650) (v := iv 0) hx hb dL_refuses_650 rfl ?_
                        refine lv_iload (pc := 651) hx hb dL_refuses_651 (lv_at hl 10 rfl) ?_
                        refine lv_iconst (pc := 653) (v := iv 0) hx hb dL_refuses_653 rfl ?_
                        refine c_callSW (pc := 654) (y := yL_act) (As := [.ref x, .int (iv 10), .int (iv 0), .int (iv 2147483647), .int (iv 0)]) (rest := []) hC hE hP hD hS hl.1 (A_common_io l ε hst hH 0 2147483647 0 (by decide) (by decide) (by decide) (by omega)) m_4_18 m_4_19 m_0_5 m_4_20 hd_yL_act rfl ⟨⟨by decide, by decide⟩, (Nat.le_of_ble_eq_true rfl), (Nat.le_of_ble_eq_true rfl)⟩ (Nat.le_of_ble_eq_true rfl) rfl dL_refuses_654 kxN (fun v w_8 H locs hq hP hD hS => ?_)
                        refine W.widen (k := 523) (n := 64012) (Nat.le_of_ble_eq_true rfl) (Nat.le_of_ble_eq_true rfl) ?_
                        rw [hq.2] at hP hD
                        rw [hq.1]
                        dsimp only [Option.toList, List.cons_append, List.nil_append]
                        refine lv_bipush (pc := 657) (v := iv (-71)) hx hb dL_refuses_657 (by decide) ?_
                        refine r_icmp_ne (pc := 659) (a := (-71)) (b := (-71)) hx hb dL_refuses_659 (tgt := 666) (by decide) ⟨by omega, by omega⟩ ⟨by omega, by omega⟩ (fun c_659 => ?_) (fun c_659 => ?_)
                        · exact absurd c_659 (by decide)
                        · have c_659_ := c_659
                          refine lv_iconst (pc := 662) (v := iv 1) hx hb dL_refuses_662 rfl ?_
                          refine lv_goto (pc := 663) (tgt := 667) hx hb dL_refuses_663 (by decide) ?_
                          refine lv_istore (lv' := [(15, .int (iv 1)), (0, .ref x), (1, .int (iv pa)), (2, .int (iv la)), (3, .int (iv ca)), (4, .int (iv (n 3))), (5, .int (iv (clcB G (n 2).toNat))), (6, .int (iv 2147483647)), (7, .int (iv 2)), (8, .int (iv 2147483647)), (9, .int (iv 2147483647)), (10, .int (iv 2147483647)), (11, .int (iv 2147483647)), (12, .int (iv 2147483647)), (13, .int (iv 2147483647)), (14, .int (iv 2147483647))]) (pc := 667) hx hb dL_refuses_667 hl (by decide) rfl (fun ls hl => ?_)
                          refine W.widen (k := 523) (n := 64012) (Nat.le_of_ble_eq_true rfl) (Nat.le_of_ble_eq_true rfl) ?_
                          exact hnx _ _ _ _ _ _ _ _ _ hC hE hQ _ _ _ _ rfl hP hD hS (lv_sub hl [1, 2, 3, 4, 5, 6, 7, 8, 9, 10, 11, 12, 13, 14, 15, 0] rfl)
            · exact absurd c_568 (by decide)
        · exact absurd c_543 (by decide)
set_option maxRecDepth 100000 in
set_option maxHeartbeats 8000000 in
theorem sr_16 (l : Launch) (ε : EV) (hst : l.stackTraces = false) {x : Nat} {n : Nat → Int} {G : Nat → Nat → Int} {w : va_W} (hHw : HS ε x n G w) (pa la ca : Int) (hpa : pa = n 1) (hla : la = n 2) (hca : ca = n 4) (h3 : n 3 < 512) (hnx : SEG l ε yL_refuses cL_refuses 16 rm_A_refuses (fun v z => v = some (.int (iv 1)) ∧ z = w) 751 534 64080 [(0, .ref x), (1, .int (iv pa)), (2, .int (iv la)), (3, .int (iv ca)), (4, .int (iv (n 3))), (5, .int (iv (clcB G (n 2).toNat))), (6, .int (iv 2147483647)), (7, .int (iv 2)), (8, .int (iv 2147483647)), (9, .int (iv 2147483647)), (10, .int (iv 2147483647)), (11, .int (iv 2147483647)), (12, .int (iv 2147483647)), (13, .int (iv 2147483647)), (14, .int (iv 2147483647)), (15, .int (iv 1))] (fun z => z = w)) : SEG l ε yL_refuses cL_refuses 16 rm_A_refuses (fun v z => v = some (.int (iv 1)) ∧ z = w) 669 523 64012 [(0, .ref x), (1, .int (iv pa)), (2, .int (iv la)), (3, .int (iv ca)), (4, .int (iv (n 3))), (5, .int (iv (clcB G (n 2).toNat))), (6, .int (iv 2147483647)), (7, .int (iv 2)), (8, .int (iv 2147483647)), (9, .int (iv 2147483647)), (10, .int (iv 2147483647)), (11, .int (iv 2147483647)), (12, .int (iv 2147483647)), (13, .int (iv 2147483647)), (14, .int (iv 2147483647)), (15, .int (iv 1))] (fun z => z = w) := by
  intro p9 e9 s9 m9 a9 bl9 me9 c9 Q9 hC hE hQ H locs ls w9 hH hP hD hS hl
  have hx := hC.1
  have hb := hC.2.1
  have hK := hE.K
  subst hH
  have hH := hHw
  obtain ⟨fo, hob⟩ := hH.ob
  have hI := hH.inv
  have hN := hI.NB
  have hlp := lamp_patt hI
  refine lv_iload_n (pc := 669) hx hb dL_refuses_669 rfl (lv_at hl 3 rfl) ?_
  refine r_if_le (pc := 670) (a := ca) hx hb dL_refuses_670 (tgt := 751) (by decide) ⟨by omega, by omega⟩ (fun c_670 => ?_) (fun c_670 => ?_)
  · have c_670_ := c_670
    refine W.widen (k := 534) (n := 64080) (Nat.le_of_ble_eq_true rfl) (Nat.le_of_ble_eq_true rfl) ?_
    exact hnx _ _ _ _ _ _ _ _ _ hC hE hQ _ _ _ _ rfl hP hD hS (lv_sub hl [0, 1, 2, 3, 4, 5, 6, 7, 8, 9, 10, 11, 12, 13, 14, 15] rfl)
  · have c_670_ := c_670
    refine lv_iload (pc := 673) hx hb dL_refuses_673 (lv_at hl 15 rfl) ?_
    refine r_if_eq (pc := 675) (a := 1) hx hb dL_refuses_675 (tgt := 748) (by decide) ⟨by omega, by omega⟩ (fun c_675 => ?_) (fun c_675 => ?_)
    · exact absurd c_675 (by decide)
    · have c_675_ := c_675
      refine lv_aload_n (pc := 678) hx hb dL_refuses_678 rfl (lv_at hl 0 rfl) ?_
      refine lv_bipush (pc := 679) (v := iv 12) hx hb dL_refuses_679 (by decide) ?_
      refine lv_iconst (pc := 681) (v := iv 0) hx hb dL_refuses_681 rfl ?_
      refine lv_iload (pc := 682) hx hb dL_refuses_682 (lv_at hl 7 rfl) ?_
      refine r_if_ne (pc := 684) (a := 2) hx hb dL_refuses_684 (tgt := 691) (by decide) ⟨by omega, by omega⟩ (fun c_684 => ?_) (fun c_684 => ?_)
      · have c_684_ := c_684
        refine lv_iload (pc := 691) hx hb dL_refuses_691 (lv_at hl 7 rfl) ?_
        refine lv_iconst (pc := 693) (v := iv 1) hx hb dL_refuses_693 rfl ?_
        refine r_icmp_ne (pc := 694) (a := 2) (b := 1) hx hb dL_refuses_694 (tgt := 702) (by decide) ⟨by omega, by omega⟩ ⟨by omega, by omega⟩ (fun c_694 => ?_) (fun c_694 => ?_)
        · have c_694_ := c_694
          refine lv_iload (pc := 702) hx hb dL_refuses_702 (lv_at hl 8 rfl) ?_
          refine lv_iconst (pc := 704) (v := iv 0) hx hb dL_refuses_704 rfl ?_
          refine c_callSW (pc := 705) (y := yL_act) (As := [.ref x, .int (iv 12), .int (iv 0), .int (iv 2147483647), .int (iv 0)]) (rest := []) hC hE hP hD hS hl.1 (A_correct_ia l ε hst hH 0 2147483647 0 (by decide) (by decide) (by decide) (by omega)) m_4_18 m_4_19 m_0_5 m_4_20 hd_yL_act rfl ⟨⟨by decide, by decide⟩, (Nat.le_of_ble_eq_true rfl), (Nat.le_of_ble_eq_true rfl)⟩ (Nat.le_of_ble_eq_true rfl) rfl dL_refuses_705 kxN (fun v w_1 H locs hq hP hD hS => ?_)
          refine W.widen (k := 526) (n := 64032) (Nat.le_of_ble_eq_true rfl) (Nat.le_of_ble_eq_true rfl) ?_
          rw [hq.2] at hP hD
          rw [hq.1]
          dsimp only [Option.toList, List.cons_append, List.nil_append]
          refine lv_bipush (pc := 708) (v := iv (-72)) hx hb dL_refuses_708 (by decide) ?_
          refine r_icmp_ne (pc := 710) (a := (-72)) (b := (-72)) hx hb dL_refuses_710 (tgt := 748) (by decide) ⟨by omega, by omega⟩ ⟨by omega, by omega⟩ (fun c_710 => ?_) (fun c_710 => ?_)
          · exact absurd c_710 (by decide)
          · have c_710_ := c_710
            refine lv_aload_n (pc := 713) hx hb dL_refuses_713 rfl (lv_at hl 0 rfl) ?_
            refine lv_bipush (pc := 714) (v := iv 14) hx hb dL_refuses_714 (by decide) ?_
            refine lv_iconst (pc := 716) (v := iv 0) hx hb dL_refuses_716 rfl ?_
            refine lv_iload (pc := 717) hx hb dL_refuses_717 (lv_at hl 10 rfl) ?_
            refine lv_iconst (pc := 719) (v := iv 0) hx hb dL_refuses_719 rfl ?_
            refine c_callSW (pc := 720) (y := yL_act) (As := [.ref x, .int (iv 14), .int (iv 0), .int (iv 2147483647), .int (iv 0)]) (rest := []) hC hE hP hD hS hl.1 (A_shown_io l ε hst hH 0 2147483647 0 (by decide) (by decide) (by decide) (by omega)) m_4_18 m_4_19 m_0_5 m_4_20 hd_yL_act rfl ⟨⟨by decide, by decide⟩, (Nat.le_of_ble_eq_true rfl), (Nat.le_of_ble_eq_true rfl)⟩ (Nat.le_of_ble_eq_true rfl) rfl dL_refuses_720 kxN (fun v w_2 H locs hq hP hD hS => ?_)
            refine W.widen (k := 528) (n := 64044) (Nat.le_of_ble_eq_true rfl) (Nat.le_of_ble_eq_true rfl) ?_
            rw [hq.2] at hP hD
            rw [hq.1]
            dsimp only [Option.toList, List.cons_append, List.nil_append]
            refine lv_bipush (pc := 723) (v := iv (-71)) hx hb dL_refuses_723 (by decide) ?_
            refine r_icmp_ne (pc := 725) (a := (-71)) (b := (-71)) hx hb dL_refuses_725 (tgt := 748) (by decide) ⟨by omega, by omega⟩ ⟨by omega, by omega⟩ (fun c_725 => ?_) (fun c_725 => ?_)
            · exact absurd c_725 (by decide)
            · have c_725_ := c_725
              refine lv_aload_n (pc := 728) hx hb dL_refuses_728 rfl (lv_at hl 0 rfl) ?_
              refine lv_iconst (pc := 729) (v := iv 0) hx hb dL_refuses_729 rfl ?_
              refine lv_iconst (pc := 730) (v := iv (-1)) hx hb dL_refuses_730 rfl ?_
              refine lv_iconst (pc := 731) (v := iv 0) hx hb dL_refuses_731 rfl ?_
              refine lv_iload (pc := 732) hx hb dL_refuses_732 (lv_at hl 10 rfl) ?_
              refine lv_iconst (pc := 734) (v := iv 0) hx hb dL_refuses_734 rfl ?_
              refine lv_iconst (pc := 735) (v := iv 1) hx hb dL_refuses_735 rfl ?_
              refine c_callSW (pc := 736) (y := yL_taken) (As := [.ref x, .int (iv 0), .int (iv ((-1))), .int (iv 0), .int (iv 2147483647), .int (iv 0), .int (iv 1)]) (rest := []) hC hE hP hD hS hl.1 (A_taken_io l ε hst hH 0 ((-1)) 0 2147483647 0 1 (by decide) (by decide) (by decide) (by decide) (by decide) (by decide) (by omega)) m_15_12 m_15_13 m_0_5 m_15_14 hd_yL_taken rfl ⟨⟨by decide, by decide⟩, (Nat.le_of_ble_eq_true rfl), (Nat.le_of_ble_eq_true rfl)⟩ (Nat.le_of_ble_eq_true rfl) rfl dL_refuses_736 kxN (fun v w_3 H locs hq hP hD hS => ?_)
              refine W.widen (k := 534) (n := 64080) (Nat.le_of_ble_eq_true rfl) (Nat.le_of_ble_eq_true rfl) ?_
              rw [hq.2] at hP hD
              rw [hq.1]
              dsimp only [Option.toList, List.cons_append, List.nil_append]
              refine lv_bipush (pc := 739) (v := iv (-71)) hx hb dL_refuses_739 (by decide) ?_
              refine r_icmp_ne (pc := 741) (a := (-71)) (b := (-71)) hx hb dL_refuses_741 (tgt := 748) (by decide) ⟨by omega, by omega⟩ ⟨by omega, by omega⟩ (fun c_741 => ?_) (fun c_741 => ?_)
              · exact absurd c_741 (by decide)
              · have c_741_ := c_741
                refine lv_iconst (pc := 744) (v := iv 1) hx hb dL_refuses_744 rfl ?_
                refine lv_goto (pc := 745) (tgt := 749) hx hb dL_refuses_745 (by decide) ?_
                refine lv_istore (lv' := [(15, .int (iv 1)), (0, .ref x), (1, .int (iv pa)), (2, .int (iv la)), (3, .int (iv ca)), (4, .int (iv (n 3))), (5, .int (iv (clcB G (n 2).toNat))), (6, .int (iv 2147483647)), (7, .int (iv 2)), (8, .int (iv 2147483647)), (9, .int (iv 2147483647)), (10, .int (iv 2147483647)), (11, .int (iv 2147483647)), (12, .int (iv 2147483647)), (13, .int (iv 2147483647)), (14, .int (iv 2147483647))]) (pc := 749) hx hb dL_refuses_749 hl (by decide) rfl (fun ls hl => ?_)
                refine W.widen (k := 534) (n := 64080) (Nat.le_of_ble_eq_true rfl) (Nat.le_of_ble_eq_true rfl) ?_
                exact hnx _ _ _ _ _ _ _ _ _ hC hE hQ _ _ _ _ rfl hP hD hS (lv_sub hl [1, 2, 3, 4, 5, 6, 7, 8, 9, 10, 11, 12, 13, 14, 15, 0] rfl)
        · exact absurd c_694 (by decide)
      · exact absurd c_684 (by decide)
set_option maxRecDepth 100000 in
set_option maxHeartbeats 8000000 in
theorem sr_17 (l : Launch) (ε : EV) (hst : l.stackTraces = false) {x : Nat} {n : Nat → Int} {G : Nat → Nat → Int} {w : va_W} (hHw : HS ε x n G w) (pa la ca : Int) (hpa : pa = n 1) (hla : la = n 2) (hca : ca = n 4) (h3 : n 3 < 512) (hnx : SEG l ε yL_refuses cL_refuses 16 rm_A_refuses (fun v z => v = some (.int (iv 1)) ∧ z = w) 867 558 64224 [(0, .ref x), (1, .int (iv pa)), (2, .int (iv la)), (3, .int (iv ca)), (4, .int (iv (n 3))), (5, .int (iv (clcB G (n 2).toNat))), (6, .int (iv 2147483647)), (7, .int (iv 2)), (8, .int (iv 2147483647)), (9, .int (iv 2147483647)), (10, .int (iv 2147483647)), (11, .int (iv 2147483647)), (12, .int (iv 2147483647)), (13, .int (iv 2147483647)), (14, .int (iv 2147483647)), (15, .int (iv 1))] (fun z => z = w)) : SEG l ε yL_refuses cL_refuses 16 rm_A_refuses (fun v z => v = some (.int (iv 1)) ∧ z = w) 751 534 64080 [(0, .ref x), (1, .int (iv pa)), (2, .int (iv la)), (3, .int (iv ca)), (4, .int (iv (n 3))), (5, .int (iv (clcB G (n 2).toNat))), (6, .int (iv 2147483647)), (7, .int (iv 2)), (8, .int (iv 2147483647)), (9, .int (iv 2147483647)), (10, .int (iv 2147483647)), (11, .int (iv 2147483647)), (12, .int (iv 2147483647)), (13, .int (iv 2147483647)), (14, .int (iv 2147483647)), (15, .int (iv 1))] (fun z => z = w) := by
  intro p9 e9 s9 m9 a9 bl9 me9 c9 Q9 hC hE hQ H locs ls w9 hH hP hD hS hl
  have hx := hC.1
  have hb := hC.2.1
  have hK := hE.K
  subst hH
  have hH := hHw
  obtain ⟨fo, hob⟩ := hH.ob
  have hI := hH.inv
  have hN := hI.NB
  have hlp := lamp_patt hI
  refine lv_iload_n (pc := 751) hx hb dL_refuses_751 rfl (lv_at hl 3 rfl) ?_
  refine r_if_le (pc := 752) (a := ca) hx hb dL_refuses_752 (tgt := 867) (by decide) ⟨by omega, by omega⟩ (fun c_752 => ?_) (fun c_752 => ?_)
  · have c_752_ := c_752
    refine W.widen (k := 558) (n := 64224) (Nat.le_of_ble_eq_true rfl) (Nat.le_of_ble_eq_true rfl) ?_
    exact hnx _ _ _ _ _ _ _ _ _ hC hE hQ _ _ _ _ rfl hP hD hS (lv_sub hl [0, 1, 2, 3, 4, 5, 6, 7, 8, 9, 10, 11, 12, 13, 14, 15] rfl)
  · have c_752_ := c_752
    refine lv_iload_n (pc := 755) hx hb dL_refuses_755 rfl (lv_at hl 2 rfl) ?_
    refine r_if_le (pc := 756) (a := la) hx hb dL_refuses_756 (tgt := 867) (by decide) ⟨by omega, by omega⟩ (fun c_756 => ?_) (fun c_756 => ?_)
    · have c_756_ := c_756
      refine W.widen (k := 558) (n := 64224) (Nat.le_of_ble_eq_true rfl) (Nat.le_of_ble_eq_true rfl) ?_
      exact hnx _ _ _ _ _ _ _ _ _ hC hE hQ _ _ _ _ rfl hP hD hS (lv_sub hl [0, 1, 2, 3, 4, 5, 6, 7, 8, 9, 10, 11, 12, 13, 14, 15] rfl)
    · have c_756_ := c_756
      refine lv_iload (pc := 759) hx hb dL_refuses_759 (lv_at hl 15 rfl) ?_
      refine r_if_eq (pc := 761) (a := 1) hx hb dL_refuses_761 (tgt := 864) (by decide) ⟨by omega, by omega⟩ (fun c_761 => ?_) (fun c_761 => ?_)
      · exact absurd c_761 (by decide)
      · have c_761_ := c_761
        refine lv_aload_n (pc := 764) hx hb dL_refuses_764 rfl (lv_at hl 0 rfl) ?_
        refine lv_iconst (pc := 765) (v := iv 0) hx hb dL_refuses_765 rfl ?_
        refine lv_iload (pc := 766) hx hb dL_refuses_766 (lv_at hl 12 rfl) ?_
        refine lv_iconst (pc := 768) (v := iv 0) hx hb dL_refuses_768 rfl ?_
        refine lv_iconst (pc := 769) (v := iv 0) hx hb dL_refuses_769 rfl ?_
        refine lv_iconst (pc := 770) (v := iv 0) hx hb dL_refuses_770 rfl ?_
        refine lv_iconst (pc := 771) (v := iv 1) hx hb dL_refuses_771 rfl ?_
        refine c_callSW (pc := 772) (y := yL_taken) (As := [.ref x, .int (iv 0), .int (iv 2147483647), .int (iv 0), .int (iv 0), .int (iv 0), .int (iv 1)]) (rest := []) hC hE hP hD hS hl.1 (A_taken_ia l ε hst hH 0 2147483647 0 0 0 1 (by decide) (by decide) (by decide) (by decide) (by decide) (by decide) (by omega)) m_15_12 m_15_13 m_0_5 m_15_14 hd_yL_taken rfl ⟨⟨by decide, by decide⟩, (Nat.le_of_ble_eq_true rfl), (Nat.le_of_ble_eq_true rfl)⟩ (Nat.le_of_ble_eq_true rfl) rfl dL_refuses_772 kxN (fun v w_1 H locs hq hP hD hS => ?_)
        refine W.widen (k := 540) (n := 64116) (Nat.le_of_ble_eq_true rfl) (Nat.le_of_ble_eq_true rfl) ?_
        rw [hq.2] at hP hD
        rw [hq.1]
        dsimp only [Option.toList, List.cons_append, List.nil_append]
        refine lv_bipush (pc := 775) (v := iv (-72)) hx hb dL_refuses_775 (by decide) ?_
        refine r_icmp_ne (pc := 777) (a := (-72)) (b := (-72)) hx hb dL_refuses_777 (tgt := 864) (by decide) ⟨by omega, by omega⟩ ⟨by omega, by omega⟩ (fun c_777 => ?_) (fun c_777 => ?_)
        · exact absurd c_777 (by decide)
        · have c_777_ := c_777
          refine lv_aload_n (pc := 780) hx hb dL_refuses_780 rfl (lv_at hl 0 rfl) ?_
          refine lv_iconst (pc := 781) (v := iv 0) hx hb dL_refuses_781 rfl ?_
          refine lv_iconst (pc := 782) (v := iv 0) hx hb dL_refuses_782 rfl ?_
          refine lv_iload (pc := 783) hx hb dL_refuses_783 (lv_at hl 12 rfl) ?_
          refine lv_iconst (pc := 785) (v := iv 0) hx hb dL_refuses_785 rfl ?_
          refine lv_iconst (pc := 786) (v := iv 0) hx hb dL_refuses_786 rfl ?_
          refine lv_iconst (pc := 787) (v := iv 1) hx hb dL_refuses_787 rfl ?_
          refine c_callSW (pc := 788) (y := yL_taken) (As := [.ref x, .int (iv 0), .int (iv 0), .int (iv 2147483647), .int (iv 0), .int (iv 0), .int (iv 1)]) (rest := []) hC hE hP hD hS hl.1 (A_taken_ia l ε hst hH 0 0 2147483647 0 0 1 (by decide) (by decide) (by decide) (by decide) (by decide) (by decide) (by omega)) m_15_12 m_15_13 m_0_5 m_15_14 hd_yL_taken rfl ⟨⟨by decide, by decide⟩, (Nat.le_of_ble_eq_true rfl), (Nat.le_of_ble_eq_true rfl)⟩ (Nat.le_of_ble_eq_true rfl) rfl dL_refuses_788 kxN (fun v w_2 H locs hq hP hD hS => ?_)
          refine W.widen (k := 546) (n := 64152) (Nat.le_of_ble_eq_true rfl) (Nat.le_of_ble_eq_true rfl) ?_
          rw [hq.2] at hP hD
          rw [hq.1]
          dsimp only [Option.toList, List.cons_append, List.nil_append]
          refine lv_bipush (pc := 791) (v := iv (-72)) hx hb dL_refuses_791 (by decide) ?_
          refine r_icmp_ne (pc := 793) (a := (-72)) (b := (-72)) hx hb dL_refuses_793 (tgt := 864) (by decide) ⟨by omega, by omega⟩ ⟨by omega, by omega⟩ (fun c_793 => ?_) (fun c_793 => ?_)
          · exact absurd c_793 (by decide)
          · have c_793_ := c_793
            refine lv_aload_n (pc := 796) hx hb dL_refuses_796 rfl (lv_at hl 0 rfl) ?_
            refine lv_iconst (pc := 797) (v := iv 0) hx hb dL_refuses_797 rfl ?_
            refine lv_iconst (pc := 798) (v := iv 0) hx hb dL_refuses_798 rfl ?_
            refine lv_iconst (pc := 799) (v := iv 0) hx hb dL_refuses_799 rfl ?_
            refine lv_iconst (pc := 800) (v := iv 0) hx hb dL_refuses_800 rfl ?_
            refine lv_iload (pc := 801) hx hb dL_refuses_801 (lv_at hl 7 rfl) ?_
            refine lv_iconst (pc := 803) (v := iv 1) hx hb dL_refuses_803 rfl ?_
            refine r_icmp_ne (pc := 804) (a := 2) (b := 1) hx hb dL_refuses_804 (tgt := 813) (by decide) ⟨by omega, by omega⟩ ⟨by omega, by omega⟩ (fun c_804 => ?_) (fun c_804 => ?_)
            · have c_804_ := c_804
              refine lv_iload (pc := 813) hx hb dL_refuses_813 (lv_at hl 8 rfl) ?_
              refine lv_iconst (pc := 815) (v := iv 1) hx hb dL_refuses_815 rfl ?_
              refine c_callSW (pc := 816) (y := yL_taken) (As := [.ref x, .int (iv 0), .int (iv 0), .int (iv 0), .int (iv 0), .int (iv 2147483647), .int (iv 1)]) (rest := []) hC hE hP hD hS hl.1 (A_taken_ia l ε hst hH 0 0 0 0 2147483647 1 (by decide) (by decide) (by decide) (by decide) (by decide) (by decide) (by omega)) m_15_12 m_15_13 m_0_5 m_15_14 hd_yL_taken rfl ⟨⟨by decide, by decide⟩, (Nat.le_of_ble_eq_true rfl), (Nat.le_of_ble_eq_true rfl)⟩ (Nat.le_of_ble_eq_true rfl) rfl dL_refuses_816 kxN (fun v w_3 H locs hq hP hD hS => ?_)
              refine W.widen (k := 552) (n := 64188) (Nat.le_of_ble_eq_true rfl) (Nat.le_of_ble_eq_true rfl) ?_
              rw [hq.2] at hP hD
              rw [hq.1]
              dsimp only [Option.toList, List.cons_append, List.nil_append]
              refine lv_bipush (pc := 819) (v := iv (-72)) hx hb dL_refuses_819 (by decide) ?_
              refine r_icmp_ne (pc := 821) (a := (-72)) (b := (-72)) hx hb dL_refuses_821 (tgt := 864) (by decide) ⟨by omega, by omega⟩ ⟨by omega, by omega⟩ (fun c_821 => ?_) (fun c_821 => ?_)
              · exact absurd c_821 (by decide)
              · have c_821_ := c_821
                refine lv_aload_n (pc := 824) hx hb dL_refuses_824 rfl (lv_at hl 0 rfl) ?_
                refine lv_iconst (pc := 825) (v := iv 0) hx hb dL_refuses_825 rfl ?_
                refine lv_iconst (pc := 826) (v := iv 0) hx hb dL_refuses_826 rfl ?_
                refine lv_iconst (pc := 827) (v := iv 0) hx hb dL_refuses_827 rfl ?_
                refine lv_iconst (pc := 828) (v := iv 0) hx hb dL_refuses_828 rfl ?_
                refine lv_iconst (pc := 829) (v := iv 0) hx hb dL_refuses_829 rfl ?_
                refine lv_iload (pc := 830) hx hb dL_refuses_830 (lv_at hl 7 rfl) ?_
                refine r_if_ne (pc := 832) (a := 2) hx hb dL_refuses_832 (tgt := 839) (by decide) ⟨by omega, by omega⟩ (fun c_832 => ?_) (fun c_832 => ?_)
                · have c_832_ := c_832
                  refine lv_iload (pc := 839) hx hb dL_refuses_839 (lv_at hl 7 rfl) ?_
                  refine lv_iconst (pc := 841) (v := iv 1) hx hb dL_refuses_841 rfl ?_
                  refine r_icmp_ne (pc := 842) (a := 2) (b := 1) hx hb dL_refuses_842 (tgt := 850) (by decide) ⟨by omega, by omega⟩ ⟨by omega, by omega⟩ (fun c_842 => ?_) (fun c_842 => ?_)
                  · have c_842_ := c_842
                    refine lv_iload (pc := 850) hx hb dL_refuses_850 (lv_at hl 8 rfl) ?_
                    refine c_callSW (pc := 852) (y := yL_taken) (As := [.ref x, .int (iv 0), .int (iv 0), .int (iv 0), .int (iv 0), .int (iv 0), .int (iv 2147483647)]) (rest := []) hC hE hP hD hS hl.1 (A_taken_ia l ε hst hH 0 0 0 0 0 2147483647 (by decide) (by decide) (by decide) (by decide) (by decide) (by decide) (by omega)) m_15_12 m_15_13 m_0_5 m_15_14 hd_yL_taken rfl ⟨⟨by decide, by decide⟩, (Nat.le_of_ble_eq_true rfl), (Nat.le_of_ble_eq_true rfl)⟩ (Nat.le_of_ble_eq_true rfl) rfl dL_refuses_852 kxN (fun v w_4 H locs hq hP hD hS => ?_)
                    refine W.widen (k := 558) (n := 64224) (Nat.le_of_ble_eq_true rfl) (Nat.le_of_ble_eq_true rfl) ?_
                    rw [hq.2] at hP hD
                    rw [hq.1]
                    dsimp only [Option.toList, List.cons_append, List.nil_append]
                    refine lv_bipush (pc := 855) (v := iv (-72)) hx hb dL_refuses_855 (by decide) ?_
                    refine r_icmp_ne (pc := 857) (a := (-72)) (b := (-72)) hx hb dL_refuses_857 (tgt := 864) (by decide) ⟨by omega, by omega⟩ ⟨by omega, by omega⟩ (fun c_857 => ?_) (fun c_857 => ?_)
                    · exact absurd c_857 (by decide)
                    · have c_857_ := c_857
                      refine lv_iconst (pc := 860) (v := iv 1) hx hb dL_refuses_860 rfl ?_
                      refine lv_goto (pc := 861) (tgt := 865) hx hb dL_refuses_861 (by decide) ?_
                      refine lv_istore (lv' := [(15, .int (iv 1)), (0, .ref x), (1, .int (iv pa)), (2, .int (iv la)), (3, .int (iv ca)), (4, .int (iv (n 3))), (5, .int (iv (clcB G (n 2).toNat))), (6, .int (iv 2147483647)), (7, .int (iv 2)), (8, .int (iv 2147483647)), (9, .int (iv 2147483647)), (10, .int (iv 2147483647)), (11, .int (iv 2147483647)), (12, .int (iv 2147483647)), (13, .int (iv 2147483647)), (14, .int (iv 2147483647))]) (pc := 865) hx hb dL_refuses_865 hl (by decide) rfl (fun ls hl => ?_)
                      refine W.widen (k := 558) (n := 64224) (Nat.le_of_ble_eq_true rfl) (Nat.le_of_ble_eq_true rfl) ?_
                      exact hnx _ _ _ _ _ _ _ _ _ hC hE hQ _ _ _ _ rfl hP hD hS (lv_sub hl [1, 2, 3, 4, 5, 6, 7, 8, 9, 10, 11, 12, 13, 14, 15, 0] rfl)
                  · exact absurd c_842 (by decide)
                · exact absurd c_832 (by decide)
            · exact absurd c_804 (by decide)
set_option maxRecDepth 100000 in
set_option maxHeartbeats 8000000 in
theorem sr_18 (l : Launch) (ε : EV) (hst : l.stackTraces = false) {x : Nat} {n : Nat → Int} {G : Nat → Nat → Int} {w : va_W} (hHw : HS ε x n G w) (pa la ca : Int) (hpa : pa = n 1) (hla : la = n 2) (hca : ca = n 4) (h3 : n 3 < 512) (hnx : SEG l ε yL_refuses cL_refuses 16 rm_A_refuses (fun v z => v = some (.int (iv 1)) ∧ z = w) 19 558 64224 [(0, .ref x), (1, .int (iv pa)), (2, .int (iv la)), (3, .int (iv ca)), (4, .int (iv (n 3))), (5, .int (iv (clcB G (n 2).toNat))), (6, .int (iv 2147483647)), (7, .int (iv 3))] (fun z => z = w)) : SEG l ε yL_refuses cL_refuses 16 rm_A_refuses (fun v z => v = some (.int (iv 1)) ∧ z = w) 867 558 64224 [(0, .ref x), (1, .int (iv pa)), (2, .int (iv la)), (3, .int (iv ca)), (4, .int (iv (n 3))), (5, .int (iv (clcB G (n 2).toNat))), (6, .int (iv 2147483647)), (7, .int (iv 2)), (8, .int (iv 2147483647)), (9, .int (iv 2147483647)), (10, .int (iv 2147483647)), (11, .int (iv 2147483647)), (12, .int (iv 2147483647)), (13, .int (iv 2147483647)), (14, .int (iv 2147483647)), (15, .int (iv 1))] (fun z => z = w) := by
  intro p9 e9 s9 m9 a9 bl9 me9 c9 Q9 hC hE hQ H locs ls w9 hH hP hD hS hl
  have hx := hC.1
  have hb := hC.2.1
  have hK := hE.K
  subst hH
  have hH := hHw
  obtain ⟨fo, hob⟩ := hH.ob
  have hI := hH.inv
  have hN := hI.NB
  have hlp := lamp_patt hI
  refine lv_iload (pc := 867) hx hb dL_refuses_867 (lv_at hl 15 rfl) ?_
  refine r_if_ne (pc := 869) (a := 1) hx hb dL_refuses_869 (tgt := 874) (by decide) ⟨by omega, by omega⟩ (fun c_869 => ?_) (fun c_869 => ?_)
  · have c_869_ := c_869
    refine lv_iinc (v := iv (3)) (lv' := [(7, .int (iv 3)), (0, .ref x), (1, .int (iv pa)), (2, .int (iv la)), (3, .int (iv ca)), (4, .int (iv (n 3))), (5, .int (iv (clcB G (n 2).toNat))), (6, .int (iv 2147483647)), (8, .int (iv 2147483647)), (9, .int (iv 2147483647)), (10, .int (iv 2147483647)), (11, .int (iv 2147483647)), (12, .int (iv 2147483647)), (13, .int (iv 2147483647)), (14, .int (iv 2147483647)), (15, .int (iv 1))]) (pc := 874) hx hb dL_refuses_874 hl (k := 7) rfl (iv_add _ _) (by decide) rfl (fun ls hl => ?_)
    refine lv_goto (pc := 877) (tgt := 19) hx hb dL_refuses_877 (by decide) ?_
    refine W.widen (k := 558) (n := 64224) (Nat.le_of_ble_eq_true rfl) (Nat.le_of_ble_eq_true rfl) ?_
    exact hnx _ _ _ _ _ _ _ _ _ hC hE hQ _ _ _ _ rfl hP hD hS (lv_sub hl [1, 2, 3, 4, 5, 6, 7, 0] rfl)
  · exact absurd c_869 (by decide)
set_option maxRecDepth 100000 in
set_option maxHeartbeats 8000000 in
theorem sr_19 (l : Launch) (ε : EV) (hst : l.stackTraces = false) {x : Nat} {n : Nat → Int} {G : Nat → Nat → Int} {w : va_W} (hHw : HS ε x n G w) (pa la ca : Int) (hpa : pa = n 1) (hla : la = n 2) (hca : ca = n 4) (h3 : n 3 < 512) (hnx : SEG l ε yL_refuses cL_refuses 16 rm_A_refuses (fun v z => v = some (.int (iv 1)) ∧ z = w) 409 617 69900 [(0, .ref x), (1, .int (iv pa)), (2, .int (iv la)), (3, .int (iv ca)), (4, .int (iv (n 3))), (5, .int (iv (clcB G (n 2).toNat))), (6, .int (iv 2147483647)), (7, .int (iv 3)), (8, .int (iv ((-2147483648)))), (9, .int (iv ((-2147483648)))), (10, .int (iv ((-2147483648)))), (11, .int (iv ((-2147483648)))), (12, .int (iv ((-2147483648)))), (13, .int (iv ((-2147483648)))), (14, .int (iv ((-2147483648)))), (15, .int (iv 1))] (fun z => z = w)) : SEG l ε yL_refuses cL_refuses 16 rm_A_refuses (fun v z => v = some (.int (iv 1)) ∧ z = w) 19 558 64224 [(0, .ref x), (1, .int (iv pa)), (2, .int (iv la)), (3, .int (iv ca)), (4, .int (iv (n 3))), (5, .int (iv (clcB G (n 2).toNat))), (6, .int (iv 2147483647)), (7, .int (iv 3))] (fun z => z = w) := by
  intro p9 e9 s9 m9 a9 bl9 me9 c9 Q9 hC hE hQ H locs ls w9 hH hP hD hS hl
  have hx := hC.1
  have hb := hC.2.1
  have hK := hE.K
  subst hH
  have hH := hHw
  obtain ⟨fo, hob⟩ := hH.ob
  have hI := hH.inv
  have hN := hI.NB
  have hlp := lamp_patt hI
  refine lv_iload (pc := 19) hx hb dL_refuses_19 (lv_at hl 7 rfl) ?_
  refine lv_iconst (pc := 21) (v := iv 4) hx hb dL_refuses_21 rfl ?_
  refine r_icmp_ge (pc := 22) (a := 3) (b := 4) hx hb dL_refuses_22 (tgt := 880) (by decide) ⟨by omega, by omega⟩ ⟨by omega, by omega⟩ (fun c_22 => ?_) (fun c_22 => ?_)
  · exact absurd c_22 (by decide)
  · have c_22_ := c_22
    refine lv_iload (pc := 25) hx hb dL_refuses_25 (lv_at hl 7 rfl) ?_
    refine r_if_ne (pc := 27) (a := 3) hx hb dL_refuses_27 (tgt := 34) (by decide) ⟨by omega, by omega⟩ (fun c_27 => ?_) (fun c_27 => ?_)
    · have c_27_ := c_27
      refine lv_iload (pc := 34) hx hb dL_refuses_34 (lv_at hl 7 rfl) ?_
      refine lv_iconst (pc := 36) (v := iv 2) hx hb dL_refuses_36 rfl ?_
      refine r_icmp_ne (pc := 37) (a := 3) (b := 2) hx hb dL_refuses_37 (tgt := 45) (by decide) ⟨by omega, by omega⟩ ⟨by omega, by omega⟩ (fun c_37 => ?_) (fun c_37 => ?_)
      · have c_37_ := c_37
        refine lv_iload (pc := 45) hx hb dL_refuses_45 (lv_at hl 6 rfl) ?_
        refine r_ineg (pc := 47) (a := 2147483647) hx hb dL_refuses_47 ?_
        refine lv_iconst (pc := 48) (v := iv 1) hx hb dL_refuses_48 rfl ?_
        refine r_isub (pc := 49) (a := (-2147483647)) (b := 1) hx hb dL_refuses_49 ?_
        rw [show (((-2147483647)) - 1 : Int) = (-2147483648) by decide]
        refine lv_istore (lv' := [(8, .int (iv ((-2147483648)))), (0, .ref x), (1, .int (iv pa)), (2, .int (iv la)), (3, .int (iv ca)), (4, .int (iv (n 3))), (5, .int (iv (clcB G (n 2).toNat))), (6, .int (iv 2147483647)), (7, .int (iv 3))]) (pc := 50) hx hb dL_refuses_50 hl (by decide) rfl (fun ls hl => ?_)
        refine lv_iload (pc := 52) hx hb dL_refuses_52 (lv_at hl 8 rfl) ?_
        refine lv_iconst (pc := 54) (v := iv 1) hx hb dL_refuses_54 rfl ?_
        refine r_icmp_ne (pc := 55) (a := 3) (b := 1) hx hb dL_refuses_55 (tgt := 62) (by decide) ⟨by omega, by omega⟩ ⟨by omega, by omega⟩ (fun c_55 => ?_) (fun c_55 => ?_)
        · have c_55_ := c_55
          refine lv_iload (pc := 62) hx hb dL_refuses_62 (lv_at hl 0 rfl) ?_
          refine lv_istore (lv' := [(9, .int (iv ((-2147483648)))), (8, .int (iv ((-2147483648)))), (0, .ref x), (1, .int (iv pa)), (2, .int (iv la)), (3, .int (iv ca)), (4, .int (iv (n 3))), (5, .int (iv (clcB G (n 2).toNat))), (6, .int (iv 2147483647)), (7, .int (iv 3))]) (pc := 64) hx hb dL_refuses_64 hl (by decide) rfl (fun ls hl => ?_)
          refine lv_iload (pc := 66) hx hb dL_refuses_66 (lv_at hl 9 rfl) ?_
          refine lv_iconst (pc := 68) (v := iv 1) hx hb dL_refuses_68 rfl ?_
          refine r_icmp_ne (pc := 69) (a := 3) (b := 1) hx hb dL_refuses_69 (tgt := 76) (by decide) ⟨by omega, by omega⟩ ⟨by omega, by omega⟩ (fun c_69 => ?_) (fun c_69 => ?_)
          · have c_69_ := c_69
            refine lv_iload (pc := 76) hx hb dL_refuses_76 (lv_at hl 1 rfl) ?_
            refine lv_istore (lv' := [(10, .int (iv ((-2147483648)))), (9, .int (iv ((-2147483648)))), (8, .int (iv ((-2147483648)))), (0, .ref x), (1, .int (iv pa)), (2, .int (iv la)), (3, .int (iv ca)), (4, .int (iv (n 3))), (5, .int (iv (clcB G (n 2).toNat))), (6, .int (iv 2147483647)), (7, .int (iv 3))]) (pc := 78) hx hb dL_refuses_78 hl (by decide) rfl (fun ls hl => ?_)
            refine lv_iload (pc := 80) hx hb dL_refuses_80 (lv_at hl 10 rfl) ?_
            refine lv_iconst (pc := 82) (v := iv 1) hx hb dL_refuses_82 rfl ?_
            refine r_icmp_ne (pc := 83) (a := 3) (b := 1) hx hb dL_refuses_83 (tgt := 90) (by decide) ⟨by omega, by omega⟩ ⟨by omega, by omega⟩ (fun c_83 => ?_) (fun c_83 => ?_)
            · have c_83_ := c_83
              refine lv_iload (pc := 90) hx hb dL_refuses_90 (lv_at hl 2 rfl) ?_
              refine lv_istore (lv' := [(11, .int (iv ((-2147483648)))), (10, .int (iv ((-2147483648)))), (9, .int (iv ((-2147483648)))), (8, .int (iv ((-2147483648)))), (0, .ref x), (1, .int (iv pa)), (2, .int (iv la)), (3, .int (iv ca)), (4, .int (iv (n 3))), (5, .int (iv (clcB G (n 2).toNat))), (6, .int (iv 2147483647)), (7, .int (iv 3))]) (pc := 92) hx hb dL_refuses_92 hl (by decide) rfl (fun ls hl => ?_)
              refine lv_iload (pc := 94) hx hb dL_refuses_94 (lv_at hl 11 rfl) ?_
              refine lv_iconst (pc := 96) (v := iv 1) hx hb dL_refuses_96 rfl ?_
              refine r_icmp_ne (pc := 97) (a := 3) (b := 1) hx hb dL_refuses_97 (tgt := 105) (by decide) ⟨by omega, by omega⟩ ⟨by omega, by omega⟩ (fun c_97 => ?_) (fun c_97 => ?_)
              · have c_97_ := c_97
                refine lv_iload (pc := 105) hx hb dL_refuses_105 (lv_at hl 3 rfl) ?_
                refine lv_istore (lv' := [(12, .int (iv ((-2147483648)))), (11, .int (iv ((-2147483648)))), (10, .int (iv ((-2147483648)))), (9, .int (iv ((-2147483648)))), (8, .int (iv ((-2147483648)))), (0, .ref x), (1, .int (iv pa)), (2, .int (iv la)), (3, .int (iv ca)), (4, .int (iv (n 3))), (5, .int (iv (clcB G (n 2).toNat))), (6, .int (iv 2147483647)), (7, .int (iv 3))]) (pc := 107) hx hb dL_refuses_107 hl (by decide) rfl (fun ls hl => ?_)
                refine lv_iload (pc := 109) hx hb dL_refuses_109 (lv_at hl 12 rfl) ?_
                refine r_if_ne (pc := 111) (a := 3) hx hb dL_refuses_111 (tgt := 118) (by decide) ⟨by omega, by omega⟩ (fun c_111 => ?_) (fun c_111 => ?_)
                · have c_111_ := c_111
                  refine lv_iload (pc := 118) hx hb dL_refuses_118 (lv_at hl 12 rfl) ?_
                  refine lv_iconst (pc := 120) (v := iv 1) hx hb dL_refuses_120 rfl ?_
                  refine r_icmp_ne (pc := 121) (a := 3) (b := 1) hx hb dL_refuses_121 (tgt := 129) (by decide) ⟨by omega, by omega⟩ ⟨by omega, by omega⟩ (fun c_121 => ?_) (fun c_121 => ?_)
                  · have c_121_ := c_121
                    refine lv_iload (pc := 129) hx hb dL_refuses_129 (lv_at hl 4 rfl) ?_
                    refine lv_istore (lv' := [(13, .int (iv ((-2147483648)))), (12, .int (iv ((-2147483648)))), (11, .int (iv ((-2147483648)))), (10, .int (iv ((-2147483648)))), (9, .int (iv ((-2147483648)))), (8, .int (iv ((-2147483648)))), (0, .ref x), (1, .int (iv pa)), (2, .int (iv la)), (3, .int (iv ca)), (4, .int (iv (n 3))), (5, .int (iv (clcB G (n 2).toNat))), (6, .int (iv 2147483647)), (7, .int (iv 3))]) (pc := 131) hx hb dL_refuses_131 hl (by decide) rfl (fun ls hl => ?_)
                    refine lv_iload (pc := 133) hx hb dL_refuses_133 (lv_at hl 13 rfl) ?_
                    refine r_if_ne (pc := 135) (a := 3) hx hb dL_refuses_135 (tgt := 142) (by decide) ⟨by omega, by omega⟩ (fun c_135 => ?_) (fun c_135 => ?_)
                    · have c_135_ := c_135
                      refine lv_iload (pc := 142) hx hb dL_refuses_142 (lv_at hl 13 rfl) ?_
                      refine lv_iconst (pc := 144) (v := iv 1) hx hb dL_refuses_144 rfl ?_
                      refine r_icmp_ne (pc := 145) (a := 3) (b := 1) hx hb dL_refuses_145 (tgt := 154) (by decide) ⟨by omega, by omega⟩ ⟨by omega, by omega⟩ (fun c_145 => ?_) (fun c_145 => ?_)
                      · have c_145_ := c_145
                        refine lv_iload (pc := 154) hx hb dL_refuses_154 (lv_at hl 5 rfl) ?_
                        refine lv_istore (lv' := [(14, .int (iv ((-2147483648)))), (13, .int (iv ((-2147483648)))), (12, .int (iv ((-2147483648)))), (11, .int (iv ((-2147483648)))), (10, .int (iv ((-2147483648)))), (9, .int (iv ((-2147483648)))), (8, .int (iv ((-2147483648)))), (0, .ref x), (1, .int (iv pa)), (2, .int (iv la)), (3, .int (iv ca)), (4, .int (iv (n 3))), (5, .int (iv (clcB G (n 2).toNat))), (6, .int (iv 2147483647)), (7, .int (iv 3))]) (pc := 156) hx hb dL_refuses_156 hl (by decide) rfl (fun ls hl => ?_)
                        refine lv_aload_n (pc := 158) hx hb dL_refuses_158 rfl (lv_at hl 7 rfl) ?_
                        refine lv_iconst (pc := 159) (v := iv 0) hx hb dL_refuses_159 rfl ?_
                        refine lv_iload (pc := 160) hx hb dL_refuses_160 (lv_at hl 14 rfl) ?_
                        refine r_if_ne (pc := 162) (a := 3) hx hb dL_refuses_162 (tgt := 169) (by decide) ⟨by omega, by omega⟩ (fun c_162 => ?_) (fun c_162 => ?_)
                        · have c_162_ := c_162
                          refine lv_iload (pc := 169) hx hb dL_refuses_169 (lv_at hl 14 rfl) ?_
                          refine lv_iconst (pc := 171) (v := iv 1) hx hb dL_refuses_171 rfl ?_
                          refine r_icmp_ne (pc := 172) (a := 3) (b := 1) hx hb dL_refuses_172 (tgt := 180) (by decide) ⟨by omega, by omega⟩ ⟨by omega, by omega⟩ (fun c_172 => ?_) (fun c_172 => ?_)
                          · have c_172_ := c_172
                            refine lv_iload (pc := 180) hx hb dL_refuses_180 (lv_at hl 6 rfl) ?_
                            refine lv_iconst (pc := 182) (v := iv 0) hx hb dL_refuses_182 rfl ?_
                            refine lv_iconst (pc := 183) (v := iv 0) hx hb dL_refuses_183 rfl ?_
                            refine c_callSW (pc := 184) (y := yL_act) (As := [.ref x, .int (iv 0), .int (iv ((-2147483648))), .int (iv 0), .int (iv 0)]) (rest := []) hC hE hP hD hS hl.1 (A_phase_ia l ε hst hH ((-2147483648)) 0 0 (by decide) (by decide) (by decide) (by omega)) m_4_18 m_4_19 m_0_5 m_4_20 hd_yL_act rfl ⟨⟨by decide, by decide⟩, (Nat.le_of_ble_eq_true rfl), (Nat.le_of_ble_eq_true rfl)⟩ (Nat.le_of_ble_eq_true rfl) rfl dL_refuses_184 kxN (fun v w_1 H locs hq hP hD hS => ?_)
                            refine W.widen (k := 560) (n := 64236) (Nat.le_of_ble_eq_true rfl) (Nat.le_of_ble_eq_true rfl) ?_
                            rw [hq.2] at hP hD
                            rw [hq.1]
                            dsimp only [Option.toList, List.cons_append, List.nil_append]
                            refine lv_bipush (pc := 187) (v := iv (-72)) hx hb dL_refuses_187 (by decide) ?_
                            refine r_icmp_ne (pc := 189) (a := (-72)) (b := (-72)) hx hb dL_refuses_189 (tgt := 406) (by decide) ⟨by omega, by omega⟩ ⟨by omega, by omega⟩ (fun c_189 => ?_) (fun c_189 => ?_)
                            · exact absurd c_189 (by decide)
                            · have c_189_ := c_189
                              refine lv_aload_n (pc := 192) hx hb dL_refuses_192 rfl (lv_at hl 7 rfl) ?_
                              refine lv_iconst (pc := 193) (v := iv 2) hx hb dL_refuses_193 rfl ?_
                              refine lv_iload (pc := 194) hx hb dL_refuses_194 (lv_at hl 5 rfl) ?_
                              refine lv_iconst (pc := 196) (v := iv 0) hx hb dL_refuses_196 rfl ?_
                              refine lv_iconst (pc := 197) (v := iv 0) hx hb dL_refuses_197 rfl ?_
                              refine c_callSW (pc := 198) (y := yL_act) (As := [.ref x, .int (iv 2), .int (iv ((-2147483648))), .int (iv 0), .int (iv 0)]) (rest := []) hC hE hP hD hS hl.1 (A_period_io l ε hst hH ((-2147483648)) 0 0 (by decide) (by decide) (by decide) (by omega)) m_4_18 m_4_19 m_0_5 m_4_20 hd_yL_act rfl ⟨⟨by decide, by decide⟩, (Nat.le_of_ble_eq_true rfl), (Nat.le_of_ble_eq_true rfl)⟩ (Nat.le_of_ble_eq_true rfl) rfl dL_refuses_198 kxN (fun v w_2 H locs hq hP hD hS => ?_)
                              refine W.widen (k := 561) (n := 64242) (Nat.le_of_ble_eq_true rfl) (Nat.le_of_ble_eq_true rfl) ?_
                              rw [hq.2] at hP hD
                              rw [hq.1]
                              dsimp only [Option.toList, List.cons_append, List.nil_append]
                              refine lv_bipush (pc := 201) (v := iv (-71)) hx hb dL_refuses_201 (by decide) ?_
                              refine r_icmp_ne (pc := 203) (a := (-71)) (b := (-71)) hx hb dL_refuses_203 (tgt := 406) (by decide) ⟨by omega, by omega⟩ ⟨by omega, by omega⟩ (fun c_203 => ?_) (fun c_203 => ?_)
                              · exact absurd c_203 (by decide)
                              · have c_203_ := c_203
                                refine lv_aload_n (pc := 206) hx hb dL_refuses_206 rfl (lv_at hl 7 rfl) ?_
                                refine lv_iconst (pc := 207) (v := iv 3) hx hb dL_refuses_207 rfl ?_
                                refine lv_iload (pc := 208) hx hb dL_refuses_208 (lv_at hl 5 rfl) ?_
                                refine lv_iload (pc := 210) hx hb dL_refuses_210 (lv_at hl 5 rfl) ?_
                                refine lv_iconst (pc := 212) (v := iv 0) hx hb dL_refuses_212 rfl ?_
                                refine c_callSW (pc := 213) (y := yL_act) (As := [.ref x, .int (iv 3), .int (iv ((-2147483648))), .int (iv ((-2147483648))), .int (iv 0)]) (rest := []) hC hE hP hD hS hl.1 (A_alike_io l ε hst hH ((-2147483648)) ((-2147483648)) 0 (by decide) (by decide) (by decide) (by omega)) m_4_18 m_4_19 m_0_5 m_4_20 hd_yL_act rfl ⟨⟨by decide, by decide⟩, (Nat.le_of_ble_eq_true rfl), (Nat.le_of_ble_eq_true rfl)⟩ (Nat.le_of_ble_eq_true rfl) rfl dL_refuses_213 kxN (fun v w_3 H locs hq hP hD hS => ?_)
                                refine W.widen (k := 563) (n := 64254) (Nat.le_of_ble_eq_true rfl) (Nat.le_of_ble_eq_true rfl) ?_
                                rw [hq.2] at hP hD
                                rw [hq.1]
                                dsimp only [Option.toList, List.cons_append, List.nil_append]
                                refine lv_bipush (pc := 216) (v := iv (-71)) hx hb dL_refuses_216 (by decide) ?_
                                refine r_icmp_ne (pc := 218) (a := (-71)) (b := (-71)) hx hb dL_refuses_218 (tgt := 406) (by decide) ⟨by omega, by omega⟩ ⟨by omega, by omega⟩ (fun c_218 => ?_) (fun c_218 => ?_)
                                · exact absurd c_218 (by decide)
                                · have c_218_ := c_218
                                  refine lv_aload_n (pc := 221) hx hb dL_refuses_221 rfl (lv_at hl 7 rfl) ?_
                                  refine lv_iconst (pc := 222) (v := iv 4) hx hb dL_refuses_222 rfl ?_
                                  refine lv_iload (pc := 223) hx hb dL_refuses_223 (lv_at hl 5 rfl) ?_
                                  refine lv_iload (pc := 225) hx hb dL_refuses_225 (lv_at hl 5 rfl) ?_
                                  refine lv_iconst (pc := 227) (v := iv 0) hx hb dL_refuses_227 rfl ?_
                                  refine c_callSW (pc := 228) (y := yL_act) (As := [.ref x, .int (iv 4), .int (iv ((-2147483648))), .int (iv ((-2147483648))), .int (iv 0)]) (rest := []) hC hE hP hD hS hl.1 (A_alikes_io l ε hst hH ((-2147483648)) ((-2147483648)) 0 (by decide) (by decide) (by decide) (by omega)) m_4_18 m_4_19 m_0_5 m_4_20 hd_yL_act rfl ⟨⟨by decide, by decide⟩, (Nat.le_of_ble_eq_true rfl), (Nat.le_of_ble_eq_true rfl)⟩ (Nat.le_of_ble_eq_true rfl) rfl dL_refuses_228 kxN (fun v w_4 H locs hq hP hD hS => ?_)
                                  refine W.widen (k := 565) (n := 64266) (Nat.le_of_ble_eq_true rfl) (Nat.le_of_ble_eq_true rfl) ?_
                                  rw [hq.2] at hP hD
                                  rw [hq.1]
                                  dsimp only [Option.toList, List.cons_append, List.nil_append]
                                  refine lv_bipush (pc := 231) (v := iv (-71)) hx hb dL_refuses_231 (by decide) ?_
                                  refine r_icmp_ne (pc := 233) (a := (-71)) (b := (-71)) hx hb dL_refuses_233 (tgt := 406) (by decide) ⟨by omega, by omega⟩ ⟨by omega, by omega⟩ (fun c_233 => ?_) (fun c_233 => ?_)
                                  · exact absurd c_233 (by decide)
                                  · have c_233_ := c_233
                                    refine lv_aload_n (pc := 236) hx hb dL_refuses_236 rfl (lv_at hl 7 rfl) ?_
                                    refine lv_iconst (pc := 237) (v := iv (-1)) hx hb dL_refuses_237 rfl ?_
                                    refine lv_iconst (pc := 238) (v := iv 0) hx hb dL_refuses_238 rfl ?_
                                    refine lv_iload (pc := 239) hx hb dL_refuses_239 (lv_at hl 5 rfl) ?_
                                    refine lv_iconst (pc := 241) (v := iv 0) hx hb dL_refuses_241 rfl ?_
                                    refine lv_iconst (pc := 242) (v := iv 0) hx hb dL_refuses_242 rfl ?_
                                    refine c_callSW (pc := 243) (y := yL_lamp) (As := [.ref x, .int (iv ((-1))), .int (iv 0), .int (iv ((-2147483648))), .int (iv 0), .int (iv 0)]) (rest := []) hC hE hP hD hS hl.1 (A_lamp_io l ε hst hH ((-1)) 0 ((-2147483648)) 0 0 (by decide) (by decide) (by decide) (by decide) (by decide) h3 (by omega)) m_14_15 m_14_16 m_0_5 m_14_17 hd_yL_lamp rfl ⟨⟨by decide, by decide⟩, (Nat.le_of_ble_eq_true rfl), (Nat.le_of_ble_eq_true rfl)⟩ (Nat.le_of_ble_eq_true rfl) rfl dL_refuses_243 kxN (fun v w_5 H locs hq hP hD hS => ?_)
                                    refine W.widen (k := 579) (n := 67566) (Nat.le_of_ble_eq_true rfl) (Nat.le_of_ble_eq_true rfl) ?_
                                    rw [hq.2] at hP hD
                                    rw [hq.1]
                                    dsimp only [Option.toList, List.cons_append, List.nil_append]
                                    refine lv_bipush (pc := 246) (v := iv (-71)) hx hb dL_refuses_246 (by decide) ?_
                                    refine r_icmp_ne (pc := 248) (a := (-71)) (b := (-71)) hx hb dL_refuses_248 (tgt := 406) (by decide) ⟨by omega, by omega⟩ ⟨by omega, by omega⟩ (fun c_248 => ?_) (fun c_248 => ?_)
                                    · exact absurd c_248 (by decide)
                                    · have c_248_ := c_248
                                      refine lv_aload_n (pc := 251) hx hb dL_refuses_251 rfl (lv_at hl 7 rfl) ?_
                                      refine lv_iconst (pc := 252) (v := iv 5) hx hb dL_refuses_252 rfl ?_
                                      refine lv_iload (pc := 253) hx hb dL_refuses_253 (lv_at hl 4 rfl) ?_
                                      refine lv_iconst (pc := 255) (v := iv 0) hx hb dL_refuses_255 rfl ?_
                                      refine lv_iconst (pc := 256) (v := iv (-1)) hx hb dL_refuses_256 rfl ?_
                                      refine c_callSW (pc := 257) (y := yL_act) (As := [.ref x, .int (iv 5), .int (iv ((-2147483648))), .int (iv 0), .int (iv ((-1)))]) (rest := []) hC hE hP hD hS hl.1 (A_change_io l ε hst hH ((-2147483648)) 0 ((-1)) (by decide) (by decide) (by decide) h3 (by omega)) m_4_18 m_4_19 m_0_5 m_4_20 hd_yL_act rfl ⟨⟨by decide, by decide⟩, (Nat.le_of_ble_eq_true rfl), (Nat.le_of_ble_eq_true rfl)⟩ (Nat.le_of_ble_eq_true rfl) rfl dL_refuses_257 kxN (fun v w_6 H locs hq hP hD hS => ?_)
                                      refine W.widen (k := 587) (n := 68666) (Nat.le_of_ble_eq_true rfl) (Nat.le_of_ble_eq_true rfl) ?_
                                      rw [hq.2] at hP hD
                                      rw [hq.1]
                                      dsimp only [Option.toList, List.cons_append, List.nil_append]
                                      refine lv_bipush (pc := 260) (v := iv (-71)) hx hb dL_refuses_260 (by decide) ?_
                                      refine r_icmp_ne (pc := 262) (a := (-71)) (b := (-71)) hx hb dL_refuses_262 (tgt := 406) (by decide) ⟨by omega, by omega⟩ ⟨by omega, by omega⟩ (fun c_262 => ?_) (fun c_262 => ?_)
                                      · exact absurd c_262 (by decide)
                                      · have c_262_ := c_262
                                        refine lv_aload_n (pc := 265) hx hb dL_refuses_265 rfl (lv_at hl 7 rfl) ?_
                                        refine lv_bipush (pc := 266) (v := iv 6) hx hb dL_refuses_266 (by decide) ?_
                                        refine lv_iload (pc := 268) hx hb dL_refuses_268 (lv_at hl 4 rfl) ?_
                                        refine lv_iconst (pc := 270) (v := iv 1) hx hb dL_refuses_270 rfl ?_
                                        refine lv_iconst (pc := 271) (v := iv 0) hx hb dL_refuses_271 rfl ?_
                                        refine c_callSW (pc := 272) (y := yL_act) (As := [.ref x, .int (iv 6), .int (iv ((-2147483648))), .int (iv 1), .int (iv 0)]) (rest := []) hC hE hP hD hS hl.1 (A_fail1_io l ε hst hH ((-2147483648)) 0 (by decide) (by decide) h3 (by omega)) m_4_18 m_4_19 m_0_5 m_4_20 hd_yL_act rfl ⟨⟨by decide, by decide⟩, (Nat.le_of_ble_eq_true rfl), (Nat.le_of_ble_eq_true rfl)⟩ (Nat.le_of_ble_eq_true rfl) rfl dL_refuses_272 kxN (fun v w_7 H locs hq hP hD hS => ?_)
                                        refine W.widen (k := 595) (n := 69766) (Nat.le_of_ble_eq_true rfl) (Nat.le_of_ble_eq_true rfl) ?_
                                        rw [hq.2] at hP hD
                                        rw [hq.1]
                                        dsimp only [Option.toList, List.cons_append, List.nil_append]
                                        refine lv_bipush (pc := 275) (v := iv (-71)) hx hb dL_refuses_275 (by decide) ?_
                                        refine r_icmp_ne (pc := 277) (a := (-71)) (b := (-71)) hx hb dL_refuses_277 (tgt := 406) (by decide) ⟨by omega, by omega⟩ ⟨by omega, by omega⟩ (fun c_277 => ?_) (fun c_277 => ?_)
                                        · exact absurd c_277 (by decide)
                                        · have c_277_ := c_277
                                          refine lv_aload_n (pc := 280) hx hb dL_refuses_280 rfl (lv_at hl 7 rfl) ?_
                                          refine lv_bipush (pc := 281) (v := iv 7) hx hb dL_refuses_281 (by decide) ?_
                                          refine lv_iload (pc := 283) hx hb dL_refuses_283 (lv_at hl 4 rfl) ?_
                                          refine lv_iconst (pc := 285) (v := iv (-1)) hx hb dL_refuses_285 rfl ?_
                                          refine lv_iconst (pc := 286) (v := iv 0) hx hb dL_refuses_286 rfl ?_
                                          refine c_callSW (pc := 287) (y := yL_act) (As := [.ref x, .int (iv 7), .int (iv ((-2147483648))), .int (iv ((-1))), .int (iv 0)]) (rest := []) hC hE hP hD hS hl.1 (A_shines_io l ε hst hH ((-2147483648)) ((-1)) 0 (by decide) (by decide) (by decide) (by omega)) m_4_18 m_4_19 m_0_5 m_4_20 hd_yL_act rfl ⟨⟨by decide, by decide⟩, (Nat.le_of_ble_eq_true rfl), (Nat.le_of_ble_eq_true rfl)⟩ (Nat.le_of_ble_eq_true rfl) rfl dL_refuses_287 kxN (fun v w_8 H locs hq hP hD hS => ?_)
                                          refine W.widen (k := 597) (n := 69778) (Nat.le_of_ble_eq_true rfl) (Nat.le_of_ble_eq_true rfl) ?_
                                          rw [hq.2] at hP hD
                                          rw [hq.1]
                                          dsimp only [Option.toList, List.cons_append, List.nil_append]
                                          refine lv_bipush (pc := 290) (v := iv (-71)) hx hb dL_refuses_290 (by decide) ?_
                                          refine r_icmp_ne (pc := 292) (a := (-71)) (b := (-71)) hx hb dL_refuses_292 (tgt := 406) (by decide) ⟨by omega, by omega⟩ ⟨by omega, by omega⟩ (fun c_292 => ?_) (fun c_292 => ?_)
                                          · exact absurd c_292 (by decide)
                                          · have c_292_ := c_292
                                            refine lv_aload_n (pc := 295) hx hb dL_refuses_295 rfl (lv_at hl 7 rfl) ?_
                                            refine lv_bipush (pc := 296) (v := iv 8) hx hb dL_refuses_296 (by decide) ?_
                                            refine lv_iload (pc := 298) hx hb dL_refuses_298 (lv_at hl 4 rfl) ?_
                                            refine lv_iconst (pc := 300) (v := iv (-1)) hx hb dL_refuses_300 rfl ?_
                                            refine lv_iconst (pc := 301) (v := iv 0) hx hb dL_refuses_301 rfl ?_
                                            refine c_callSW (pc := 302) (y := yL_act) (As := [.ref x, .int (iv 8), .int (iv ((-2147483648))), .int (iv ((-1))), .int (iv 0)]) (rest := []) hC hE hP hD hS hl.1 (A_sector_io l ε hst hH ((-2147483648)) ((-1)) 0 (by decide) (by decide) (by decide) (by omega)) m_4_18 m_4_19 m_0_5 m_4_20 hd_yL_act rfl ⟨⟨by decide, by decide⟩, (Nat.le_of_ble_eq_true rfl), (Nat.le_of_ble_eq_true rfl)⟩ (Nat.le_of_ble_eq_true rfl) rfl dL_refuses_302 kxN (fun v w_9 H locs hq hP hD hS => ?_)
                                            refine W.widen (k := 600) (n := 69796) (Nat.le_of_ble_eq_true rfl) (Nat.le_of_ble_eq_true rfl) ?_
                                            rw [hq.2] at hP hD
                                            rw [hq.1]
                                            dsimp only [Option.toList, List.cons_append, List.nil_append]
                                            refine lv_bipush (pc := 305) (v := iv (-71)) hx hb dL_refuses_305 (by decide) ?_
                                            refine r_icmp_ne (pc := 307) (a := (-71)) (b := (-71)) hx hb dL_refuses_307 (tgt := 406) (by decide) ⟨by omega, by omega⟩ ⟨by omega, by omega⟩ (fun c_307 => ?_) (fun c_307 => ?_)
                                            · exact absurd c_307 (by decide)
                                            · have c_307_ := c_307
                                              refine lv_aload_n (pc := 310) hx hb dL_refuses_310 rfl (lv_at hl 7 rfl) ?_
                                              refine lv_bipush (pc := 311) (v := iv 9) hx hb dL_refuses_311 (by decide) ?_
                                              refine lv_iload (pc := 313) hx hb dL_refuses_313 (lv_at hl 4 rfl) ?_
                                              refine lv_iconst (pc := 315) (v := iv (-1)) hx hb dL_refuses_315 rfl ?_
                                              refine lv_iconst (pc := 316) (v := iv 0) hx hb dL_refuses_316 rfl ?_
                                              refine c_callSW (pc := 317) (y := yL_act) (As := [.ref x, .int (iv 9), .int (iv ((-2147483648))), .int (iv ((-1))), .int (iv 0)]) (rest := []) hC hE hP hD hS hl.1 (A_isSeen_io l ε hst hH ((-2147483648)) ((-1)) 0 (by decide) (by decide) (by decide) (by omega)) m_4_18 m_4_19 m_0_5 m_4_20 hd_yL_act rfl ⟨⟨by decide, by decide⟩, (Nat.le_of_ble_eq_true rfl), (Nat.le_of_ble_eq_true rfl)⟩ (Nat.le_of_ble_eq_true rfl) rfl dL_refuses_317 kxN (fun v w_10 H locs hq hP hD hS => ?_)
                                              refine W.widen (k := 603) (n := 69814) (Nat.le_of_ble_eq_true rfl) (Nat.le_of_ble_eq_true rfl) ?_
                                              rw [hq.2] at hP hD
                                              rw [hq.1]
                                              dsimp only [Option.toList, List.cons_append, List.nil_append]
                                              refine lv_bipush (pc := 320) (v := iv (-71)) hx hb dL_refuses_320 (by decide) ?_
                                              refine r_icmp_ne (pc := 322) (a := (-71)) (b := (-71)) hx hb dL_refuses_322 (tgt := 406) (by decide) ⟨by omega, by omega⟩ ⟨by omega, by omega⟩ (fun c_322 => ?_) (fun c_322 => ?_)
                                              · exact absurd c_322 (by decide)
                                              · have c_322_ := c_322
                                                refine lv_aload_n (pc := 325) hx hb dL_refuses_325 rfl (lv_at hl 7 rfl) ?_
                                                refine lv_bipush (pc := 326) (v := iv 10) hx hb dL_refuses_326 (by decide) ?_
                                                refine lv_iload (pc := 328) hx hb dL_refuses_328 (lv_at hl 4 rfl) ?_
                                                refine lv_iload (pc := 330) hx hb dL_refuses_330 (lv_at hl 4 rfl) ?_
                                                refine lv_iconst (pc := 332) (v := iv 0) hx hb dL_refuses_332 rfl ?_
                                                refine c_callSW (pc := 333) (y := yL_act) (As := [.ref x, .int (iv 10), .int (iv ((-2147483648))), .int (iv ((-2147483648))), .int (iv 0)]) (rest := []) hC hE hP hD hS hl.1 (A_common_io l ε hst hH ((-2147483648)) ((-2147483648)) 0 (by decide) (by decide) (by decide) (by omega)) m_4_18 m_4_19 m_0_5 m_4_20 hd_yL_act rfl ⟨⟨by decide, by decide⟩, (Nat.le_of_ble_eq_true rfl), (Nat.le_of_ble_eq_true rfl)⟩ (Nat.le_of_ble_eq_true rfl) rfl dL_refuses_333 kxN (fun v w_11 H locs hq hP hD hS => ?_)
                                                refine W.widen (k := 605) (n := 69826) (Nat.le_of_ble_eq_true rfl) (Nat.le_of_ble_eq_true rfl) ?_
                                                rw [hq.2] at hP hD
                                                rw [hq.1]
                                                dsimp only [Option.toList, List.cons_append, List.nil_append]
                                                refine lv_bipush (pc := 336) (v := iv (-71)) hx hb dL_refuses_336 (by decide) ?_
                                                refine r_icmp_ne (pc := 338) (a := (-71)) (b := (-71)) hx hb dL_refuses_338 (tgt := 406) (by decide) ⟨by omega, by omega⟩ ⟨by omega, by omega⟩ (fun c_338 => ?_) (fun c_338 => ?_)
                                                · exact absurd c_338 (by decide)
                                                · have c_338_ := c_338
                                                  refine lv_aload_n (pc := 341) hx hb dL_refuses_341 rfl (lv_at hl 7 rfl) ?_
                                                  refine lv_bipush (pc := 342) (v := iv 12) hx hb dL_refuses_342 (by decide) ?_
                                                  refine lv_iload (pc := 344) hx hb dL_refuses_344 (lv_at hl 3 rfl) ?_
                                                  refine lv_iconst (pc := 346) (v := iv 0) hx hb dL_refuses_346 rfl ?_
                                                  refine lv_iconst (pc := 347) (v := iv 0) hx hb dL_refuses_347 rfl ?_
                                                  refine c_callSW (pc := 348) (y := yL_act) (As := [.ref x, .int (iv 12), .int (iv ((-2147483648))), .int (iv 0), .int (iv 0)]) (rest := []) hC hE hP hD hS hl.1 (A_correct_io l ε hst hH ((-2147483648)) 0 0 (by decide) (by decide) (by decide) (by omega)) m_4_18 m_4_19 m_0_5 m_4_20 hd_yL_act rfl ⟨⟨by decide, by decide⟩, (Nat.le_of_ble_eq_true rfl), (Nat.le_of_ble_eq_true rfl)⟩ (Nat.le_of_ble_eq_true rfl) rfl dL_refuses_348 kxN (fun v w_12 H locs hq hP hD hS => ?_)
                                                  refine W.widen (k := 608) (n := 69846) (Nat.le_of_ble_eq_true rfl) (Nat.le_of_ble_eq_true rfl) ?_
                                                  rw [hq.2] at hP hD
                                                  rw [hq.1]
                                                  dsimp only [Option.toList, List.cons_append, List.nil_append]
                                                  refine lv_bipush (pc := 351) (v := iv (-71)) hx hb dL_refuses_351 (by decide) ?_
                                                  refine r_icmp_ne (pc := 353) (a := (-71)) (b := (-71)) hx hb dL_refuses_353 (tgt := 406) (by decide) ⟨by omega, by omega⟩ ⟨by omega, by omega⟩ (fun c_353 => ?_) (fun c_353 => ?_)
                                                  · exact absurd c_353 (by decide)
                                                  · have c_353_ := c_353
                                                    refine lv_aload_n (pc := 356) hx hb dL_refuses_356 rfl (lv_at hl 7 rfl) ?_
                                                    refine lv_bipush (pc := 357) (v := iv 13) hx hb dL_refuses_357 (by decide) ?_
                                                    refine lv_iload (pc := 359) hx hb dL_refuses_359 (lv_at hl 3 rfl) ?_
                                                    refine lv_iconst (pc := 361) (v := iv 0) hx hb dL_refuses_361 rfl ?_
                                                    refine lv_iconst (pc := 362) (v := iv 0) hx hb dL_refuses_362 rfl ?_
                                                    refine c_callSW (pc := 363) (y := yL_act) (As := [.ref x, .int (iv 13), .int (iv ((-2147483648))), .int (iv 0), .int (iv 0)]) (rest := []) hC hE hP hD hS hl.1 (A_behind_io l ε hst hH ((-2147483648)) 0 0 (by decide) (by decide) (by decide) (by omega)) m_4_18 m_4_19 m_0_5 m_4_20 hd_yL_act rfl ⟨⟨by decide, by decide⟩, (Nat.le_of_ble_eq_true rfl), (Nat.le_of_ble_eq_true rfl)⟩ (Nat.le_of_ble_eq_true rfl) rfl dL_refuses_363 kxN (fun v w_13 H locs hq hP hD hS => ?_)
                                                    refine W.widen (k := 609) (n := 69852) (Nat.le_of_ble_eq_true rfl) (Nat.le_of_ble_eq_true rfl) ?_
                                                    rw [hq.2] at hP hD
                                                    rw [hq.1]
                                                    dsimp only [Option.toList, List.cons_append, List.nil_append]
                                                    refine lv_bipush (pc := 366) (v := iv (-71)) hx hb dL_refuses_366 (by decide) ?_
                                                    refine r_icmp_ne (pc := 368) (a := (-71)) (b := (-71)) hx hb dL_refuses_368 (tgt := 406) (by decide) ⟨by omega, by omega⟩ ⟨by omega, by omega⟩ (fun c_368 => ?_) (fun c_368 => ?_)
                                                    · exact absurd c_368 (by decide)
                                                    · have c_368_ := c_368
                                                      refine lv_aload_n (pc := 371) hx hb dL_refuses_371 rfl (lv_at hl 7 rfl) ?_
                                                      refine lv_bipush (pc := 372) (v := iv 14) hx hb dL_refuses_372 (by decide) ?_
                                                      refine lv_iload (pc := 374) hx hb dL_refuses_374 (lv_at hl 3 rfl) ?_
                                                      refine lv_iconst (pc := 376) (v := iv 0) hx hb dL_refuses_376 rfl ?_
                                                      refine lv_iconst (pc := 377) (v := iv 0) hx hb dL_refuses_377 rfl ?_
                                                      refine c_callSW (pc := 378) (y := yL_act) (As := [.ref x, .int (iv 14), .int (iv ((-2147483648))), .int (iv 0), .int (iv 0)]) (rest := []) hC hE hP hD hS hl.1 (A_shown_io l ε hst hH ((-2147483648)) 0 0 (by decide) (by decide) (by decide) (by omega)) m_4_18 m_4_19 m_0_5 m_4_20 hd_yL_act rfl ⟨⟨by decide, by decide⟩, (Nat.le_of_ble_eq_true rfl), (Nat.le_of_ble_eq_true rfl)⟩ (Nat.le_of_ble_eq_true rfl) rfl dL_refuses_378 kxN (fun v w_14 H locs hq hP hD hS => ?_)
                                                      refine W.widen (k := 611) (n := 69864) (Nat.le_of_ble_eq_true rfl) (Nat.le_of_ble_eq_true rfl) ?_
                                                      rw [hq.2] at hP hD
                                                      rw [hq.1]
                                                      dsimp only [Option.toList, List.cons_append, List.nil_append]
                                                      refine lv_bipush (pc := 381) (v := iv (-71)) hx hb dL_refuses_381 (by decide) ?_
                                                      refine r_icmp_ne (pc := 383) (a := (-71)) (b := (-71)) hx hb dL_refuses_383 (tgt := 406) (by decide) ⟨by omega, by omega⟩ ⟨by omega, by omega⟩ (fun c_383 => ?_) (fun c_383 => ?_)
                                                      · exact absurd c_383 (by decide)
                                                      · have c_383_ := c_383
                                                        refine lv_aload_n (pc := 386) hx hb dL_refuses_386 rfl (lv_at hl 7 rfl) ?_
                                                        refine lv_iload (pc := 387) hx hb dL_refuses_387 (lv_at hl 3 rfl) ?_
                                                        refine lv_iconst (pc := 389) (v := iv (-1)) hx hb dL_refuses_389 rfl ?_
                                                        refine lv_iconst (pc := 390) (v := iv 0) hx hb dL_refuses_390 rfl ?_
                                                        refine lv_iconst (pc := 391) (v := iv 0) hx hb dL_refuses_391 rfl ?_
                                                        refine lv_iconst (pc := 392) (v := iv 0) hx hb dL_refuses_392 rfl ?_
                                                        refine lv_iconst (pc := 393) (v := iv 1) hx hb dL_refuses_393 rfl ?_
                                                        refine c_callSW (pc := 394) (y := yL_taken) (As := [.ref x, .int (iv ((-2147483648))), .int (iv ((-1))), .int (iv 0), .int (iv 0), .int (iv 0), .int (iv 1)]) (rest := []) hC hE hP hD hS hl.1 (A_taken_io l ε hst hH ((-2147483648)) ((-1)) 0 0 0 1 (by decide) (by decide) (by decide) (by decide) (by decide) (by decide) (by omega)) m_15_12 m_15_13 m_0_5 m_15_14 hd_yL_taken rfl ⟨⟨by decide, by decide⟩, (Nat.le_of_ble_eq_true rfl), (Nat.le_of_ble_eq_true rfl)⟩ (Nat.le_of_ble_eq_true rfl) rfl dL_refuses_394 kxN (fun v w_15 H locs hq hP hD hS => ?_)
                                                        refine W.widen (k := 617) (n := 69900) (Nat.le_of_ble_eq_true rfl) (Nat.le_of_ble_eq_true rfl) ?_
                                                        rw [hq.2] at hP hD
                                                        rw [hq.1]
                                                        dsimp only [Option.toList, List.cons_append, List.nil_append]
                                                        refine lv_bipush (pc := 397) (v := iv (-71)) hx hb dL_refuses_397 (by decide) ?_
                                                        refine r_icmp_ne (pc := 399) (a := (-71)) (b := (-71)) hx hb dL_refuses_399 (tgt := 406) (by decide) ⟨by omega, by omega⟩ ⟨by omega, by omega⟩ (fun c_399 => ?_) (fun c_399 => ?_)
                                                        · exact absurd c_399 (by decide)
                                                        · have c_399_ := c_399
                                                          refine lv_iconst (pc := 402) (v := iv 1) hx hb dL_refuses_402 rfl ?_
                                                          refine lv_goto (pc := 403) (tgt := 407) hx hb dL_refuses_403 (by decide) ?_
                                                          refine lv_istore (lv' := [(15, .int (iv 1)), (14, .int (iv ((-2147483648)))), (13, .int (iv ((-2147483648)))), (12, .int (iv ((-2147483648)))), (11, .int (iv ((-2147483648)))), (10, .int (iv ((-2147483648)))), (9, .int (iv ((-2147483648)))), (8, .int (iv ((-2147483648)))), (0, .ref x), (1, .int (iv pa)), (2, .int (iv la)), (3, .int (iv ca)), (4, .int (iv (n 3))), (5, .int (iv (clcB G (n 2).toNat))), (6, .int (iv 2147483647)), (7, .int (iv 3))]) (pc := 407) hx hb dL_refuses_407 hl (by decide) rfl (fun ls hl => ?_)
                                                          refine W.widen (k := 617) (n := 69900) (Nat.le_of_ble_eq_true rfl) (Nat.le_of_ble_eq_true rfl) ?_
                                                          exact hnx _ _ _ _ _ _ _ _ _ hC hE hQ _ _ _ _ rfl hP hD hS (lv_sub hl [8, 9, 10, 11, 12, 13, 14, 15, 7, 6, 5, 4, 3, 2, 1, 0] rfl)
                          · exact absurd c_172 (by decide)
                        · exact absurd c_162 (by decide)
                      · exact absurd c_145 (by decide)
                    · exact absurd c_135 (by decide)
                  · exact absurd c_121 (by decide)
                · exact absurd c_111 (by decide)
              · exact absurd c_97 (by decide)
            · exact absurd c_83 (by decide)
          · exact absurd c_69 (by decide)
        · exact absurd c_55 (by decide)
      · exact absurd c_37 (by decide)
    · exact absurd c_27 (by decide)
set_option maxRecDepth 100000 in
set_option maxHeartbeats 8000000 in
theorem sr_20 (l : Launch) (ε : EV) (hst : l.stackTraces = false) {x : Nat} {n : Nat → Int} {G : Nat → Nat → Int} {w : va_W} (hHw : HS ε x n G w) (pa la ca : Int) (hpa : pa = n 1) (hla : la = n 2) (hca : ca = n 4) (h3 : n 3 < 512) (hnx : SEG l ε yL_refuses cL_refuses 16 rm_A_refuses (fun v z => v = some (.int (iv 1)) ∧ z = w) 513 677 83124 [(0, .ref x), (1, .int (iv pa)), (2, .int (iv la)), (3, .int (iv ca)), (4, .int (iv (n 3))), (5, .int (iv (clcB G (n 2).toNat))), (6, .int (iv 2147483647)), (7, .int (iv 3)), (8, .int (iv ((-2147483648)))), (9, .int (iv ((-2147483648)))), (10, .int (iv ((-2147483648)))), (11, .int (iv ((-2147483648)))), (12, .int (iv ((-2147483648)))), (13, .int (iv ((-2147483648)))), (14, .int (iv ((-2147483648)))), (15, .int (iv 1))] (fun z => z = w)) : SEG l ε yL_refuses cL_refuses 16 rm_A_refuses (fun v z => v = some (.int (iv 1)) ∧ z = w) 409 617 69900 [(0, .ref x), (1, .int (iv pa)), (2, .int (iv la)), (3, .int (iv ca)), (4, .int (iv (n 3))), (5, .int (iv (clcB G (n 2).toNat))), (6, .int (iv 2147483647)), (7, .int (iv 3)), (8, .int (iv ((-2147483648)))), (9, .int (iv ((-2147483648)))), (10, .int (iv ((-2147483648)))), (11, .int (iv ((-2147483648)))), (12, .int (iv ((-2147483648)))), (13, .int (iv ((-2147483648)))), (14, .int (iv ((-2147483648)))), (15, .int (iv 1))] (fun z => z = w) := by
  intro p9 e9 s9 m9 a9 bl9 me9 c9 Q9 hC hE hQ H locs ls w9 hH hP hD hS hl
  have hx := hC.1
  have hb := hC.2.1
  have hK := hE.K
  subst hH
  have hH := hHw
  obtain ⟨fo, hob⟩ := hH.ob
  have hI := hH.inv
  have hN := hI.NB
  have hlp := lamp_patt hI
  refine lv_iload_n (pc := 409) hx hb dL_refuses_409 rfl (lv_at hl 1 rfl) ?_
  refine r_if_le (pc := 410) (a := pa) hx hb dL_refuses_410 (tgt := 513) (by decide) ⟨by omega, by omega⟩ (fun c_410 => ?_) (fun c_410 => ?_)
  · have c_410_ := c_410
    refine W.widen (k := 677) (n := 83124) (Nat.le_of_ble_eq_true rfl) (Nat.le_of_ble_eq_true rfl) ?_
    exact hnx _ _ _ _ _ _ _ _ _ hC hE hQ _ _ _ _ rfl hP hD hS (lv_sub hl [0, 1, 2, 3, 4, 5, 6, 7, 8, 9, 10, 11, 12, 13, 14, 15] rfl)
  · have c_410_ := c_410
    refine lv_iload (pc := 413) hx hb dL_refuses_413 (lv_at hl 15 rfl) ?_
    refine r_if_eq (pc := 415) (a := 1) hx hb dL_refuses_415 (tgt := 510) (by decide) ⟨by omega, by omega⟩ (fun c_415 => ?_) (fun c_415 => ?_)
    · exact absurd c_415 (by decide)
    · have c_415_ := c_415
      refine lv_aload_n (pc := 418) hx hb dL_refuses_418 rfl (lv_at hl 0 rfl) ?_
      refine lv_iconst (pc := 419) (v := iv 3) hx hb dL_refuses_419 rfl ?_
      refine lv_iconst (pc := 420) (v := iv 0) hx hb dL_refuses_420 rfl ?_
      refine lv_iload (pc := 421) hx hb dL_refuses_421 (lv_at hl 9 rfl) ?_
      refine lv_iconst (pc := 423) (v := iv 0) hx hb dL_refuses_423 rfl ?_
      refine c_callSW (pc := 424) (y := yL_act) (As := [.ref x, .int (iv 3), .int (iv 0), .int (iv ((-2147483648))), .int (iv 0)]) (rest := []) hC hE hP hD hS hl.1 (A_alike_io l ε hst hH 0 ((-2147483648)) 0 (by decide) (by decide) (by decide) (by omega)) m_4_18 m_4_19 m_0_5 m_4_20 hd_yL_act rfl ⟨⟨by decide, by decide⟩, (Nat.le_of_ble_eq_true rfl), (Nat.le_of_ble_eq_true rfl)⟩ (Nat.le_of_ble_eq_true rfl) rfl dL_refuses_424 kxN (fun v w_1 H locs hq hP hD hS => ?_)
      refine W.widen (k := 619) (n := 69912) (Nat.le_of_ble_eq_true rfl) (Nat.le_of_ble_eq_true rfl) ?_
      rw [hq.2] at hP hD
      rw [hq.1]
      dsimp only [Option.toList, List.cons_append, List.nil_append]
      refine lv_bipush (pc := 427) (v := iv (-71)) hx hb dL_refuses_427 (by decide) ?_
      refine r_icmp_ne (pc := 429) (a := (-71)) (b := (-71)) hx hb dL_refuses_429 (tgt := 510) (by decide) ⟨by omega, by omega⟩ ⟨by omega, by omega⟩ (fun c_429 => ?_) (fun c_429 => ?_)
      · exact absurd c_429 (by decide)
      · have c_429_ := c_429
        refine lv_aload_n (pc := 432) hx hb dL_refuses_432 rfl (lv_at hl 0 rfl) ?_
        refine lv_iconst (pc := 433) (v := iv 4) hx hb dL_refuses_433 rfl ?_
        refine lv_iconst (pc := 434) (v := iv 0) hx hb dL_refuses_434 rfl ?_
        refine lv_iload (pc := 435) hx hb dL_refuses_435 (lv_at hl 9 rfl) ?_
        refine lv_iconst (pc := 437) (v := iv 0) hx hb dL_refuses_437 rfl ?_
        refine c_callSW (pc := 438) (y := yL_act) (As := [.ref x, .int (iv 4), .int (iv 0), .int (iv ((-2147483648))), .int (iv 0)]) (rest := []) hC hE hP hD hS hl.1 (A_alikes_io l ε hst hH 0 ((-2147483648)) 0 (by decide) (by decide) (by decide) (by omega)) m_4_18 m_4_19 m_0_5 m_4_20 hd_yL_act rfl ⟨⟨by decide, by decide⟩, (Nat.le_of_ble_eq_true rfl), (Nat.le_of_ble_eq_true rfl)⟩ (Nat.le_of_ble_eq_true rfl) rfl dL_refuses_438 kxN (fun v w_2 H locs hq hP hD hS => ?_)
        refine W.widen (k := 621) (n := 69924) (Nat.le_of_ble_eq_true rfl) (Nat.le_of_ble_eq_true rfl) ?_
        rw [hq.2] at hP hD
        rw [hq.1]
        dsimp only [Option.toList, List.cons_append, List.nil_append]
        refine lv_bipush (pc := 441) (v := iv (-71)) hx hb dL_refuses_441 (by decide) ?_
        refine r_icmp_ne (pc := 443) (a := (-71)) (b := (-71)) hx hb dL_refuses_443 (tgt := 510) (by decide) ⟨by omega, by omega⟩ ⟨by omega, by omega⟩ (fun c_443 => ?_) (fun c_443 => ?_)
        · exact absurd c_443 (by decide)
        · have c_443_ := c_443
          refine lv_aload_n (pc := 446) hx hb dL_refuses_446 rfl (lv_at hl 0 rfl) ?_
          refine lv_iload (pc := 447) hx hb dL_refuses_447 (lv_at hl 12 rfl) ?_
          refine lv_iconst (pc := 449) (v := iv 0) hx hb dL_refuses_449 rfl ?_
          refine lv_iconst (pc := 450) (v := iv 0) hx hb dL_refuses_450 rfl ?_
          refine lv_iconst (pc := 451) (v := iv 5) hx hb dL_refuses_451 rfl ?_
          refine lv_iconst (pc := 452) (v := iv 5) hx hb dL_refuses_452 rfl ?_
          refine c_callSW (pc := 453) (y := yL_lamp) (As := [.ref x, .int (iv ((-2147483648))), .int (iv 0), .int (iv 0), .int (iv 5), .int (iv 5)]) (rest := []) hC hE hP hD hS hl.1 (A_lamp_ia l ε hst hH ((-2147483648)) 0 0 5 5 (by decide) (by decide) (by decide) (by decide) (by decide) h3 (by omega)) m_14_15 m_14_16 m_0_5 m_14_17 hd_yL_lamp rfl ⟨⟨by decide, by decide⟩, (Nat.le_of_ble_eq_true rfl), (Nat.le_of_ble_eq_true rfl)⟩ (Nat.le_of_ble_eq_true rfl) rfl dL_refuses_453 kxN (fun v w_3 H locs hq hP hD hS => ?_)
          refine W.widen (k := 635) (n := 73224) (Nat.le_of_ble_eq_true rfl) (Nat.le_of_ble_eq_true rfl) ?_
          rw [hq.2] at hP hD
          rw [hq.1]
          dsimp only [Option.toList, List.cons_append, List.nil_append]
          refine lv_bipush (pc := 456) (v := iv (-72)) hx hb dL_refuses_456 (by decide) ?_
          refine r_icmp_ne (pc := 458) (a := (-72)) (b := (-72)) hx hb dL_refuses_458 (tgt := 510) (by decide) ⟨by omega, by omega⟩ ⟨by omega, by omega⟩ (fun c_458 => ?_) (fun c_458 => ?_)
          · exact absurd c_458 (by decide)
          · have c_458_ := c_458
            refine lv_aload_n (pc := 461) hx hb dL_refuses_461 rfl (lv_at hl 0 rfl) ?_
            refine lv_iconst (pc := 462) (v := iv 0) hx hb dL_refuses_462 rfl ?_
            refine lv_iload (pc := 463) hx hb dL_refuses_463 (lv_at hl 12 rfl) ?_
            refine lv_iconst (pc := 465) (v := iv 0) hx hb dL_refuses_465 rfl ?_
            refine lv_iconst (pc := 466) (v := iv 5) hx hb dL_refuses_466 rfl ?_
            refine lv_iconst (pc := 467) (v := iv 5) hx hb dL_refuses_467 rfl ?_
            refine c_callSW (pc := 468) (y := yL_lamp) (As := [.ref x, .int (iv 0), .int (iv ((-2147483648))), .int (iv 0), .int (iv 5), .int (iv 5)]) (rest := []) hC hE hP hD hS hl.1 (A_lamp_ia l ε hst hH 0 ((-2147483648)) 0 5 5 (by decide) (by decide) (by decide) (by decide) (by decide) h3 (by omega)) m_14_15 m_14_16 m_0_5 m_14_17 hd_yL_lamp rfl ⟨⟨by decide, by decide⟩, (Nat.le_of_ble_eq_true rfl), (Nat.le_of_ble_eq_true rfl)⟩ (Nat.le_of_ble_eq_true rfl) rfl dL_refuses_468 kxN (fun v w_4 H locs hq hP hD hS => ?_)
            refine W.widen (k := 649) (n := 76524) (Nat.le_of_ble_eq_true rfl) (Nat.le_of_ble_eq_true rfl) ?_
            rw [hq.2] at hP hD
            rw [hq.1]
            dsimp only [Option.toList, List.cons_append, List.nil_append]
            refine lv_bipush (pc := 471) (v := iv (-72)) hx hb dL_refuses_471 (by decide) ?_
            refine r_icmp_ne (pc := 473) (a := (-72)) (b := (-72)) hx hb dL_refuses_473 (tgt := 510) (by decide) ⟨by omega, by omega⟩ ⟨by omega, by omega⟩ (fun c_473 => ?_) (fun c_473 => ?_)
            · exact absurd c_473 (by decide)
            · have c_473_ := c_473
              refine lv_aload_n (pc := 476) hx hb dL_refuses_476 rfl (lv_at hl 0 rfl) ?_
              refine lv_iconst (pc := 477) (v := iv 0) hx hb dL_refuses_477 rfl ?_
              refine lv_iconst (pc := 478) (v := iv 0) hx hb dL_refuses_478 rfl ?_
              refine lv_iconst (pc := 479) (v := iv 0) hx hb dL_refuses_479 rfl ?_
              refine lv_iload (pc := 480) hx hb dL_refuses_480 (lv_at hl 13 rfl) ?_
              refine lv_iconst (pc := 482) (v := iv 5) hx hb dL_refuses_482 rfl ?_
              refine c_callSW (pc := 483) (y := yL_lamp) (As := [.ref x, .int (iv 0), .int (iv 0), .int (iv 0), .int (iv ((-2147483648))), .int (iv 5)]) (rest := []) hC hE hP hD hS hl.1 (A_lamp_ia l ε hst hH 0 0 0 ((-2147483648)) 5 (by decide) (by decide) (by decide) (by decide) (by decide) h3 (by omega)) m_14_15 m_14_16 m_0_5 m_14_17 hd_yL_lamp rfl ⟨⟨by decide, by decide⟩, (Nat.le_of_ble_eq_true rfl), (Nat.le_of_ble_eq_true rfl)⟩ (Nat.le_of_ble_eq_true rfl) rfl dL_refuses_483 kxN (fun v w_5 H locs hq hP hD hS => ?_)
              refine W.widen (k := 663) (n := 79824) (Nat.le_of_ble_eq_true rfl) (Nat.le_of_ble_eq_true rfl) ?_
              rw [hq.2] at hP hD
              rw [hq.1]
              dsimp only [Option.toList, List.cons_append, List.nil_append]
              refine lv_bipush (pc := 486) (v := iv (-72)) hx hb dL_refuses_486 (by decide) ?_
              refine r_icmp_ne (pc := 488) (a := (-72)) (b := (-72)) hx hb dL_refuses_488 (tgt := 510) (by decide) ⟨by omega, by omega⟩ ⟨by omega, by omega⟩ (fun c_488 => ?_) (fun c_488 => ?_)
              · exact absurd c_488 (by decide)
              · have c_488_ := c_488
                refine lv_aload_n (pc := 491) hx hb dL_refuses_491 rfl (lv_at hl 0 rfl) ?_
                refine lv_iconst (pc := 492) (v := iv 0) hx hb dL_refuses_492 rfl ?_
                refine lv_iconst (pc := 493) (v := iv 0) hx hb dL_refuses_493 rfl ?_
                refine lv_iconst (pc := 494) (v := iv 0) hx hb dL_refuses_494 rfl ?_
                refine lv_iconst (pc := 495) (v := iv 5) hx hb dL_refuses_495 rfl ?_
                refine lv_iload (pc := 496) hx hb dL_refuses_496 (lv_at hl 14 rfl) ?_
                refine c_callSW (pc := 498) (y := yL_lamp) (As := [.ref x, .int (iv 0), .int (iv 0), .int (iv 0), .int (iv 5), .int (iv ((-2147483648)))]) (rest := []) hC hE hP hD hS hl.1 (A_lamp_ia l ε hst hH 0 0 0 5 ((-2147483648)) (by decide) (by decide) (by decide) (by decide) (by decide) h3 (by omega)) m_14_15 m_14_16 m_0_5 m_14_17 hd_yL_lamp rfl ⟨⟨by decide, by decide⟩, (Nat.le_of_ble_eq_true rfl), (Nat.le_of_ble_eq_true rfl)⟩ (Nat.le_of_ble_eq_true rfl) rfl dL_refuses_498 kxN (fun v w_6 H locs hq hP hD hS => ?_)
                refine W.widen (k := 677) (n := 83124) (Nat.le_of_ble_eq_true rfl) (Nat.le_of_ble_eq_true rfl) ?_
                rw [hq.2] at hP hD
                rw [hq.1]
                dsimp only [Option.toList, List.cons_append, List.nil_append]
                refine lv_bipush (pc := 501) (v := iv (-72)) hx hb dL_refuses_501 (by decide) ?_
                refine r_icmp_ne (pc := 503) (a := (-72)) (b := (-72)) hx hb dL_refuses_503 (tgt := 510) (by decide) ⟨by omega, by omega⟩ ⟨by omega, by omega⟩ (fun c_503 => ?_) (fun c_503 => ?_)
                · exact absurd c_503 (by decide)
                · have c_503_ := c_503
                  refine lv_iconst (pc := 506) (v := iv 1) hx hb dL_refuses_506 rfl ?_
                  refine lv_goto (pc := 507) (tgt := 511) hx hb dL_refuses_507 (by decide) ?_
                  refine lv_istore (lv' := [(15, .int (iv 1)), (0, .ref x), (1, .int (iv pa)), (2, .int (iv la)), (3, .int (iv ca)), (4, .int (iv (n 3))), (5, .int (iv (clcB G (n 2).toNat))), (6, .int (iv 2147483647)), (7, .int (iv 3)), (8, .int (iv ((-2147483648)))), (9, .int (iv ((-2147483648)))), (10, .int (iv ((-2147483648)))), (11, .int (iv ((-2147483648)))), (12, .int (iv ((-2147483648)))), (13, .int (iv ((-2147483648)))), (14, .int (iv ((-2147483648))))]) (pc := 511) hx hb dL_refuses_511 hl (by decide) rfl (fun ls hl => ?_)
                  refine W.widen (k := 677) (n := 83124) (Nat.le_of_ble_eq_true rfl) (Nat.le_of_ble_eq_true rfl) ?_
                  exact hnx _ _ _ _ _ _ _ _ _ hC hE hQ _ _ _ _ rfl hP hD hS (lv_sub hl [1, 2, 3, 4, 5, 6, 7, 8, 9, 10, 11, 12, 13, 14, 15, 0] rfl)
set_option maxRecDepth 100000 in
set_option maxHeartbeats 8000000 in
theorem sr_21 (l : Launch) (ε : EV) (hst : l.stackTraces = false) {x : Nat} {n : Nat → Int} {G : Nat → Nat → Int} {w : va_W} (hHw : HS ε x n G w) (pa la ca : Int) (hpa : pa = n 1) (hla : la = n 2) (hca : ca = n 4) (h3 : n 3 < 512) (hnx : SEG l ε yL_refuses cL_refuses 16 rm_A_refuses (fun v z => v = some (.int (iv 1)) ∧ z = w) 669 709 85420 [(0, .ref x), (1, .int (iv pa)), (2, .int (iv la)), (3, .int (iv ca)), (4, .int (iv (n 3))), (5, .int (iv (clcB G (n 2).toNat))), (6, .int (iv 2147483647)), (7, .int (iv 3)), (8, .int (iv ((-2147483648)))), (9, .int (iv ((-2147483648)))), (10, .int (iv ((-2147483648)))), (11, .int (iv ((-2147483648)))), (12, .int (iv ((-2147483648)))), (13, .int (iv ((-2147483648)))), (14, .int (iv ((-2147483648)))), (15, .int (iv 1))] (fun z => z = w)) : SEG l ε yL_refuses cL_refuses 16 rm_A_refuses (fun v z => v = some (.int (iv 1)) ∧ z = w) 513 677 83124 [(0, .ref x), (1, .int (iv pa)), (2, .int (iv la)), (3, .int (iv ca)), (4, .int (iv (n 3))), (5, .int (iv (clcB G (n 2).toNat))), (6, .int (iv 2147483647)), (7, .int (iv 3)), (8, .int (iv ((-2147483648)))), (9, .int (iv ((-2147483648)))), (10, .int (iv ((-2147483648)))), (11, .int (iv ((-2147483648)))), (12, .int (iv ((-2147483648)))), (13, .int (iv ((-2147483648)))), (14, .int (iv ((-2147483648)))), (15, .int (iv 1))] (fun z => z = w) := by
  intro p9 e9 s9 m9 a9 bl9 me9 c9 Q9 hC hE hQ H locs ls w9 hH hP hD hS hl
  have hx := hC.1
  have hb := hC.2.1
  have hK := hE.K
  subst hH
  have hH := hHw
  obtain ⟨fo, hob⟩ := hH.ob
  have hI := hH.inv
  have hN := hI.NB
  have hlp := lamp_patt hI
  refine lv_iload_n (pc := 513) hx hb dL_refuses_513 rfl (lv_at hl 2 rfl) ?_
  refine r_if_le (pc := 514) (a := la) hx hb dL_refuses_514 (tgt := 669) (by decide) ⟨by omega, by omega⟩ (fun c_514 => ?_) (fun c_514 => ?_)
  · have c_514_ := c_514
    refine W.widen (k := 709) (n := 85420) (Nat.le_of_ble_eq_true rfl) (Nat.le_of_ble_eq_true rfl) ?_
    exact hnx _ _ _ _ _ _ _ _ _ hC hE hQ _ _ _ _ rfl hP hD hS (lv_sub hl [0, 1, 2, 3, 4, 5, 6, 7, 8, 9, 10, 11, 12, 13, 14, 15] rfl)
  · have c_514_ := c_514
    refine lv_iload (pc := 517) hx hb dL_refuses_517 (lv_at hl 15 rfl) ?_
    refine r_if_eq (pc := 519) (a := 1) hx hb dL_refuses_519 (tgt := 666) (by decide) ⟨by omega, by omega⟩ (fun c_519 => ?_) (fun c_519 => ?_)
    · exact absurd c_519 (by decide)
    · have c_519_ := c_519
      refine lv_aload_n (pc := 522) hx hb dL_refuses_522 rfl (lv_at hl 0 rfl) ?_
      refine lv_iconst (pc := 523) (v := iv 5) hx hb dL_refuses_523 rfl ?_
      refine lv_iconst (pc := 524) (v := iv 0) hx hb dL_refuses_524 rfl ?_
      refine lv_iload (pc := 525) hx hb dL_refuses_525 (lv_at hl 9 rfl) ?_
      refine lv_iconst (pc := 527) (v := iv (-1)) hx hb dL_refuses_527 rfl ?_
      refine c_callSW (pc := 528) (y := yL_act) (As := [.ref x, .int (iv 5), .int (iv 0), .int (iv ((-2147483648))), .int (iv ((-1)))]) (rest := []) hC hE hP hD hS hl.1 (A_change_io l ε hst hH 0 ((-2147483648)) ((-1)) (by decide) (by decide) (by decide) h3 (by omega)) m_4_18 m_4_19 m_0_5 m_4_20 hd_yL_act rfl ⟨⟨by decide, by decide⟩, (Nat.le_of_ble_eq_true rfl), (Nat.le_of_ble_eq_true rfl)⟩ (Nat.le_of_ble_eq_true rfl) rfl dL_refuses_528 kxN (fun v w_1 H locs hq hP hD hS => ?_)
      refine W.widen (k := 685) (n := 84224) (Nat.le_of_ble_eq_true rfl) (Nat.le_of_ble_eq_true rfl) ?_
      rw [hq.2] at hP hD
      rw [hq.1]
      dsimp only [Option.toList, List.cons_append, List.nil_append]
      refine lv_bipush (pc := 531) (v := iv (-71)) hx hb dL_refuses_531 (by decide) ?_
      refine r_icmp_ne (pc := 533) (a := (-71)) (b := (-71)) hx hb dL_refuses_533 (tgt := 666) (by decide) ⟨by omega, by omega⟩ ⟨by omega, by omega⟩ (fun c_533 => ?_) (fun c_533 => ?_)
      · exact absurd c_533 (by decide)
      · have c_533_ := c_533
        refine lv_aload_n (pc := 536) hx hb dL_refuses_536 rfl (lv_at hl 0 rfl) ?_
        refine lv_iconst (pc := 537) (v := iv 5) hx hb dL_refuses_537 rfl ?_
        refine lv_iconst (pc := 538) (v := iv 0) hx hb dL_refuses_538 rfl ?_
        refine lv_iconst (pc := 539) (v := iv 0) hx hb dL_refuses_539 rfl ?_
        refine lv_iload (pc := 540) hx hb dL_refuses_540 (lv_at hl 7 rfl) ?_
        refine lv_iconst (pc := 542) (v := iv 1) hx hb dL_refuses_542 rfl ?_
        refine r_icmp_ne (pc := 543) (a := 3) (b := 1) hx hb dL_refuses_543 (tgt := 551) (by decide) ⟨by omega, by omega⟩ ⟨by omega, by omega⟩ (fun c_543 => ?_) (fun c_543 => ?_)
        · have c_543_ := c_543
          refine lv_iload (pc := 551) hx hb dL_refuses_551 (lv_at hl 8 rfl) ?_
          refine c_callSW (pc := 553) (y := yL_act) (As := [.ref x, .int (iv 5), .int (iv 0), .int (iv 0), .int (iv ((-2147483648)))]) (rest := []) hC hE hP hD hS hl.1 (A_change_ia l ε hst hH 0 0 ((-2147483648)) (by decide) (by decide) (by decide) h3 (by omega)) m_4_18 m_4_19 m_0_5 m_4_20 hd_yL_act rfl ⟨⟨by decide, by decide⟩, (Nat.le_of_ble_eq_true rfl), (Nat.le_of_ble_eq_true rfl)⟩ (Nat.le_of_ble_eq_true rfl) rfl dL_refuses_553 kxN (fun v w_2 H locs hq hP hD hS => ?_)
          refine W.widen (k := 693) (n := 85324) (Nat.le_of_ble_eq_true rfl) (Nat.le_of_ble_eq_true rfl) ?_
          rw [hq.2] at hP hD
          rw [hq.1]
          dsimp only [Option.toList, List.cons_append, List.nil_append]
          refine lv_bipush (pc := 556) (v := iv (-72)) hx hb dL_refuses_556 (by decide) ?_
          refine r_icmp_ne (pc := 558) (a := (-72)) (b := (-72)) hx hb dL_refuses_558 (tgt := 666) (by decide) ⟨by omega, by omega⟩ ⟨by omega, by omega⟩ (fun c_558 => ?_) (fun c_558 => ?_)
          · exact absurd c_558 (by decide)
          · have c_558_ := c_558
            refine lv_aload_n (pc := 561) hx hb dL_refuses_561 rfl (lv_at hl 0 rfl) ?_
            refine lv_bipush (pc := 562) (v := iv 7) hx hb dL_refuses_562 (by decide) ?_
            refine lv_iconst (pc := 564) (v := iv 0) hx hb dL_refuses_564 rfl ?_
            refine lv_iload (pc := 565) hx hb dL_refuses_565 (lv_at hl 7 rfl) ?_
            refine lv_iconst (pc := 567) (v := iv 1) hx hb dL_refuses_567 rfl ?_
            refine r_icmp_ne (pc := 568) (a := 3) (b := 1) hx hb dL_refuses_568 (tgt := 576) (by decide) ⟨by omega, by omega⟩ ⟨by omega, by omega⟩ (fun c_568 => ?_) (fun c_568 => ?_)
            · have c_568_ := c_568
              refine lv_iload (pc := 576) hx hb dL_refuses_576 (lv_at hl 8 rfl) ?_
              refine lv_iconst (pc := 578) (v := iv 0) hx hb dL_refuses_578 rfl ?_
              refine c_callSW (pc := 579) (y := yL_act) (As := [.ref x, .int (iv 7), .int (iv 0), .int (iv ((-2147483648))), .int (iv 0)]) (rest := []) hC hE hP hD hS hl.1 (A_shines_ia l ε hst hH 0 ((-2147483648)) 0 (by decide) (by decide) (by decide) (by omega)) m_4_18 m_4_19 m_0_5 m_4_20 hd_yL_act rfl ⟨⟨by decide, by decide⟩, (Nat.le_of_ble_eq_true rfl), (Nat.le_of_ble_eq_true rfl)⟩ (Nat.le_of_ble_eq_true rfl) rfl dL_refuses_579 kxN (fun v w_3 H locs hq hP hD hS => ?_)
              refine W.widen (k := 695) (n := 85336) (Nat.le_of_ble_eq_true rfl) (Nat.le_of_ble_eq_true rfl) ?_
              rw [hq.2] at hP hD
              rw [hq.1]
              dsimp only [Option.toList, List.cons_append, List.nil_append]
              refine lv_bipush (pc := 582) (v := iv (-72)) hx hb dL_refuses_582 (by decide) ?_
              refine r_icmp_ne (pc := 584) (a := (-72)) (b := (-72)) hx hb dL_refuses_584 (tgt := 666) (by decide) ⟨by omega, by omega⟩ ⟨by omega, by omega⟩ (fun c_584 => ?_) (fun c_584 => ?_)
              · exact absurd c_584 (by decide)
              · have c_584_ := c_584
                refine lv_aload_n (pc := 587) hx hb dL_refuses_587 rfl (lv_at hl 0 rfl) ?_
                refine lv_bipush (pc := 588) (v := iv 8) hx hb dL_refuses_588 (by decide) ?_
                refine lv_iconst (pc := 590) (v := iv 0) hx hb dL_refuses_590 rfl ?_
                refine lv_iload (pc := 591) hx hb dL_refuses_591 (lv_at hl 12 rfl) ?_
                refine lv_iconst (pc := 593) (v := iv 0) hx hb dL_refuses_593 rfl ?_
                refine c_callSW (pc := 594) (y := yL_act) (As := [.ref x, .int (iv 8), .int (iv 0), .int (iv ((-2147483648))), .int (iv 0)]) (rest := []) hC hE hP hD hS hl.1 (A_sector_ia l ε hst hH 0 ((-2147483648)) 0 (by decide) (by decide) (by decide) (by omega)) m_4_18 m_4_19 m_0_5 m_4_20 hd_yL_act rfl ⟨⟨by decide, by decide⟩, (Nat.le_of_ble_eq_true rfl), (Nat.le_of_ble_eq_true rfl)⟩ (Nat.le_of_ble_eq_true rfl) rfl dL_refuses_594 kxN (fun v w_4 H locs hq hP hD hS => ?_)
                refine W.widen (k := 698) (n := 85354) (Nat.le_of_ble_eq_true rfl) (Nat.le_of_ble_eq_true rfl) ?_
                rw [hq.2] at hP hD
                rw [hq.1]
                dsimp only [Option.toList, List.cons_append, List.nil_append]
                refine lv_bipush (pc := 597) (v := iv (-72)) hx hb dL_refuses_597 (by decide) ?_
                refine r_icmp_ne (pc := 599) (a := (-72)) (b := (-72)) hx hb dL_refuses_599 (tgt := 666) (by decide) ⟨by omega, by omega⟩ ⟨by omega, by omega⟩ (fun c_599 => ?_) (fun c_599 => ?_)
                · exact absurd c_599 (by decide)
                · have c_599_ := c_599
                  refine lv_aload_n (pc := 602) hx hb dL_refuses_602 rfl (lv_at hl 0 rfl) ?_
                  refine lv_bipush (pc := 603) (v := iv 8) hx hb dL_refuses_603 (by decide) ?_
                  refine lv_iconst (pc := 605) (v := iv 0) hx hb dL_refuses_605 rfl ?_
                  refine lv_iconst (pc := 606) (v := iv 0) hx hb dL_refuses_606 rfl ?_
                  refine lv_iload (pc := 607) hx hb dL_refuses_607 (lv_at hl 12 rfl) ?_
                  refine c_callSW (pc := 609) (y := yL_act) (As := [.ref x, .int (iv 8), .int (iv 0), .int (iv 0), .int (iv ((-2147483648)))]) (rest := []) hC hE hP hD hS hl.1 (A_sector_ia l ε hst hH 0 0 ((-2147483648)) (by decide) (by decide) (by decide) (by omega)) m_4_18 m_4_19 m_0_5 m_4_20 hd_yL_act rfl ⟨⟨by decide, by decide⟩, (Nat.le_of_ble_eq_true rfl), (Nat.le_of_ble_eq_true rfl)⟩ (Nat.le_of_ble_eq_true rfl) rfl dL_refuses_609 kxN (fun v w_5 H locs hq hP hD hS => ?_)
                  refine W.widen (k := 701) (n := 85372) (Nat.le_of_ble_eq_true rfl) (Nat.le_of_ble_eq_true rfl) ?_
                  rw [hq.2] at hP hD
                  rw [hq.1]
                  dsimp only [Option.toList, List.cons_append, List.nil_append]
                  refine lv_bipush (pc := 612) (v := iv (-72)) hx hb dL_refuses_612 (by decide) ?_
                  refine r_icmp_ne (pc := 614) (a := (-72)) (b := (-72)) hx hb dL_refuses_614 (tgt := 666) (by decide) ⟨by omega, by omega⟩ ⟨by omega, by omega⟩ (fun c_614 => ?_) (fun c_614 => ?_)
                  · exact absurd c_614 (by decide)
                  · have c_614_ := c_614
                    refine lv_aload_n (pc := 617) hx hb dL_refuses_617 rfl (lv_at hl 0 rfl) ?_
                    refine lv_bipush (pc := 618) (v := iv 9) hx hb dL_refuses_618 (by decide) ?_
                    refine lv_iconst (pc := 620) (v := iv 0) hx hb dL_refuses_620 rfl ?_
                    refine lv_iload (pc := 621) hx hb dL_refuses_621 (lv_at hl 12 rfl) ?_
                    refine lv_iconst (pc := 623) (v := iv 0) hx hb dL_refuses_623 rfl ?_
                    refine c_callSW (pc := 624) (y := yL_act) (As := [.ref x, .int (iv 9), .int (iv 0), .int (iv ((-2147483648))), .int (iv 0)]) (rest := []) hC hE hP hD hS hl.1 (A_isSeen_ia l ε hst hH 0 ((-2147483648)) 0 (by decide) (by decide) (by decide) (by omega)) m_4_18 m_4_19 m_0_5 m_4_20 hd_yL_act rfl ⟨⟨by decide, by decide⟩, (Nat.le_of_ble_eq_true rfl), (Nat.le_of_ble_eq_true rfl)⟩ (Nat.le_of_ble_eq_true rfl) rfl dL_refuses_624 kxN (fun v w_6 H locs hq hP hD hS => ?_)
                    refine W.widen (k := 704) (n := 85390) (Nat.le_of_ble_eq_true rfl) (Nat.le_of_ble_eq_true rfl) ?_
                    rw [hq.2] at hP hD
                    rw [hq.1]
                    dsimp only [Option.toList, List.cons_append, List.nil_append]
                    refine lv_bipush (pc := 627) (v := iv (-72)) hx hb dL_refuses_627 (by decide) ?_
                    refine r_icmp_ne (pc := 629) (a := (-72)) (b := (-72)) hx hb dL_refuses_629 (tgt := 666) (by decide) ⟨by omega, by omega⟩ ⟨by omega, by omega⟩ (fun c_629 => ?_) (fun c_629 => ?_)
                    · exact absurd c_629 (by decide)
                    · have c_629_ := c_629
                      refine lv_aload_n (pc := 632) hx hb dL_refuses_632 rfl (lv_at hl 0 rfl) ?_
                      refine lv_bipush (pc := 633) (v := iv 9) hx hb dL_refuses_633 (by decide) ?_
                      refine lv_iconst (pc := 635) (v := iv 0) hx hb dL_refuses_635 rfl ?_
                      refine lv_iconst (pc := 636) (v := iv 0) hx hb dL_refuses_636 rfl ?_
                      refine lv_iload (pc := 637) hx hb dL_refuses_637 (lv_at hl 12 rfl) ?_
                      refine c_callSW (pc := 639) (y := yL_act) (As := [.ref x, .int (iv 9), .int (iv 0), .int (iv 0), .int (iv ((-2147483648)))]) (rest := []) hC hE hP hD hS hl.1 (A_isSeen_ia l ε hst hH 0 0 ((-2147483648)) (by decide) (by decide) (by decide) (by omega)) m_4_18 m_4_19 m_0_5 m_4_20 hd_yL_act rfl ⟨⟨by decide, by decide⟩, (Nat.le_of_ble_eq_true rfl), (Nat.le_of_ble_eq_true rfl)⟩ (Nat.le_of_ble_eq_true rfl) rfl dL_refuses_639 kxN (fun v w_7 H locs hq hP hD hS => ?_)
                      refine W.widen (k := 707) (n := 85408) (Nat.le_of_ble_eq_true rfl) (Nat.le_of_ble_eq_true rfl) ?_
                      rw [hq.2] at hP hD
                      rw [hq.1]
                      dsimp only [Option.toList, List.cons_append, List.nil_append]
                      refine lv_bipush (pc := 642) (v := iv (-72)) hx hb dL_refuses_642 (by decide) ?_
                      refine r_icmp_ne (pc := 644) (a := (-72)) (b := (-72)) hx hb dL_refuses_644 (tgt := 666) (by decide) ⟨by omega, by omega⟩ ⟨by omega, by omega⟩ (fun c_644 => ?_) (fun c_644 => ?_)
                      · exact absurd c_644 (by decide)
                      · have c_644_ := c_644
                        refine lv_aload_n (pc := 647) hx hb dL_refuses_647 rfl (lv_at hl 0 rfl) ?_
                        refine lv_bipush (pc := 648) (v := iv 10) hx hb dL_refuses_648 (by decide) ?_
                        refine lv_iconst (pc := 650) (v := iv 0) hx hb dL_refuses_650 rfl ?_
                        refine lv_iload (pc := 651) hx hb dL_refuses_651 (lv_at hl 10 rfl) ?_
                        refine lv_iconst (pc := 653) (v := iv 0) hx hb dL_refuses_653 rfl ?_
                        refine c_callSW (pc := 654) (y := yL_act) (As := [.ref x, .int (iv 10), .int (iv 0), .int (iv ((-2147483648))), .int (iv 0)]) (rest := []) hC hE hP hD hS hl.1 (A_common_io l ε hst hH 0 ((-2147483648)) 0 (by decide) (by decide) (by decide) (by omega)) m_4_18 m_4_19 m_0_5 m_4_20 hd_yL_act rfl ⟨⟨by decide, by decide⟩, (Nat.le_of_ble_eq_true rfl), (Nat.le_of_ble_eq_true rfl)⟩ (Nat.le_of_ble_eq_true rfl) rfl dL_refuses_654 kxN (fun v w_8 H locs hq hP hD hS => ?_)
                        refine W.widen (k := 709) (n := 85420) (Nat.le_of_ble_eq_true rfl) (Nat.le_of_ble_eq_true rfl) ?_
                        rw [hq.2] at hP hD
                        rw [hq.1]
                        dsimp only [Option.toList, List.cons_append, List.nil_append]
                        refine lv_bipush (pc := 657) (v := iv (-71)) hx hb dL_refuses_657 (by decide) ?_
                        refine r_icmp_ne (pc := 659) (a := (-71)) (b := (-71)) hx hb dL_refuses_659 (tgt := 666) (by decide) ⟨by omega, by omega⟩ ⟨by omega, by omega⟩ (fun c_659 => ?_) (fun c_659 => ?_)
                        · exact absurd c_659 (by decide)
                        · have c_659_ := c_659
                          refine lv_iconst (pc := 662) (v := iv 1) hx hb dL_refuses_662 rfl ?_
                          refine lv_goto (pc := 663) (tgt := 667) hx hb dL_refuses_663 (by decide) ?_
                          refine lv_istore (lv' := [(15, .int (iv 1)), (0, .ref x), (1, .int (iv pa)), (2, .int (iv la)), (3, .int (iv ca)), (4, .int (iv (n 3))), (5, .int (iv (clcB G (n 2).toNat))), (6, .int (iv 2147483647)), (7, .int (iv 3)), (8, .int (iv ((-2147483648)))), (9, .int (iv ((-2147483648)))), (10, .int (iv ((-2147483648)))), (11, .int (iv ((-2147483648)))), (12, .int (iv ((-2147483648)))), (13, .int (iv ((-2147483648)))), (14, .int (iv ((-2147483648))))]) (pc := 667) hx hb dL_refuses_667 hl (by decide) rfl (fun ls hl => ?_)
                          refine W.widen (k := 709) (n := 85420) (Nat.le_of_ble_eq_true rfl) (Nat.le_of_ble_eq_true rfl) ?_
                          exact hnx _ _ _ _ _ _ _ _ _ hC hE hQ _ _ _ _ rfl hP hD hS (lv_sub hl [1, 2, 3, 4, 5, 6, 7, 8, 9, 10, 11, 12, 13, 14, 15, 0] rfl)
            · exact absurd c_568 (by decide)
        · exact absurd c_543 (by decide)
set_option maxRecDepth 100000 in
set_option maxHeartbeats 8000000 in
theorem sr_22 (l : Launch) (ε : EV) (hst : l.stackTraces = false) {x : Nat} {n : Nat → Int} {G : Nat → Nat → Int} {w : va_W} (hHw : HS ε x n G w) (pa la ca : Int) (hpa : pa = n 1) (hla : la = n 2) (hca : ca = n 4) (h3 : n 3 < 512) (hnx : SEG l ε yL_refuses cL_refuses 16 rm_A_refuses (fun v z => v = some (.int (iv 1)) ∧ z = w) 751 720 85488 [(0, .ref x), (1, .int (iv pa)), (2, .int (iv la)), (3, .int (iv ca)), (4, .int (iv (n 3))), (5, .int (iv (clcB G (n 2).toNat))), (6, .int (iv 2147483647)), (7, .int (iv 3)), (8, .int (iv ((-2147483648)))), (9, .int (iv ((-2147483648)))), (10, .int (iv ((-2147483648)))), (11, .int (iv ((-2147483648)))), (12, .int (iv ((-2147483648)))), (13, .int (iv ((-2147483648)))), (14, .int (iv ((-2147483648)))), (15, .int (iv 1))] (fun z => z = w)) : SEG l ε yL_refuses cL_refuses 16 rm_A_refuses (fun v z => v = some (.int (iv 1)) ∧ z = w) 669 709 85420 [(0, .ref x), (1, .int (iv pa)), (2, .int (iv la)), (3, .int (iv ca)), (4, .int (iv (n 3))), (5, .int (iv (clcB G (n 2).toNat))), (6, .int (iv 2147483647)), (7, .int (iv 3)), (8, .int (iv ((-2147483648)))), (9, .int (iv ((-2147483648)))), (10, .int (iv ((-2147483648)))), (11, .int (iv ((-2147483648)))), (12, .int (iv ((-2147483648)))), (13, .int (iv ((-2147483648)))), (14, .int (iv ((-2147483648)))), (15, .int (iv 1))] (fun z => z = w) := by
  intro p9 e9 s9 m9 a9 bl9 me9 c9 Q9 hC hE hQ H locs ls w9 hH hP hD hS hl
  have hx := hC.1
  have hb := hC.2.1
  have hK := hE.K
  subst hH
  have hH := hHw
  obtain ⟨fo, hob⟩ := hH.ob
  have hI := hH.inv
  have hN := hI.NB
  have hlp := lamp_patt hI
  refine lv_iload_n (pc := 669) hx hb dL_refuses_669 rfl (lv_at hl 3 rfl) ?_
  refine r_if_le (pc := 670) (a := ca) hx hb dL_refuses_670 (tgt := 751) (by decide) ⟨by omega, by omega⟩ (fun c_670 => ?_) (fun c_670 => ?_)
  · have c_670_ := c_670
    refine W.widen (k := 720) (n := 85488) (Nat.le_of_ble_eq_true rfl) (Nat.le_of_ble_eq_true rfl) ?_
    exact hnx _ _ _ _ _ _ _ _ _ hC hE hQ _ _ _ _ rfl hP hD hS (lv_sub hl [0, 1, 2, 3, 4, 5, 6, 7, 8, 9, 10, 11, 12, 13, 14, 15] rfl)
  · have c_670_ := c_670
    refine lv_iload (pc := 673) hx hb dL_refuses_673 (lv_at hl 15 rfl) ?_
    refine r_if_eq (pc := 675) (a := 1) hx hb dL_refuses_675 (tgt := 748) (by decide) ⟨by omega, by omega⟩ (fun c_675 => ?_) (fun c_675 => ?_)
    · exact absurd c_675 (by decide)
    · have c_675_ := c_675
      refine lv_aload_n (pc := 678) hx hb dL_refuses_678 rfl (lv_at hl 0 rfl) ?_
      refine lv_bipush (pc := 679) (v := iv 12) hx hb dL_refuses_679 (by decide) ?_
      refine lv_iconst (pc := 681) (v := iv 0) hx hb dL_refuses_681 rfl ?_
      refine lv_iload (pc := 682) hx hb dL_refuses_682 (lv_at hl 7 rfl) ?_
      refine r_if_ne (pc := 684) (a := 3) hx hb dL_refuses_684 (tgt := 691) (by decide) ⟨by omega, by omega⟩ (fun c_684 => ?_) (fun c_684 => ?_)
      · have c_684_ := c_684
        refine lv_iload (pc := 691) hx hb dL_refuses_691 (lv_at hl 7 rfl) ?_
        refine lv_iconst (pc := 693) (v := iv 1) hx hb dL_refuses_693 rfl ?_
        refine r_icmp_ne (pc := 694) (a := 3) (b := 1) hx hb dL_refuses_694 (tgt := 702) (by decide) ⟨by omega, by omega⟩ ⟨by omega, by omega⟩ (fun c_694 => ?_) (fun c_694 => ?_)
        · have c_694_ := c_694
          refine lv_iload (pc := 702) hx hb dL_refuses_702 (lv_at hl 8 rfl) ?_
          refine lv_iconst (pc := 704) (v := iv 0) hx hb dL_refuses_704 rfl ?_
          refine c_callSW (pc := 705) (y := yL_act) (As := [.ref x, .int (iv 12), .int (iv 0), .int (iv ((-2147483648))), .int (iv 0)]) (rest := []) hC hE hP hD hS hl.1 (A_correct_ia l ε hst hH 0 ((-2147483648)) 0 (by decide) (by decide) (by decide) (by omega)) m_4_18 m_4_19 m_0_5 m_4_20 hd_yL_act rfl ⟨⟨by decide, by decide⟩, (Nat.le_of_ble_eq_true rfl), (Nat.le_of_ble_eq_true rfl)⟩ (Nat.le_of_ble_eq_true rfl) rfl dL_refuses_705 kxN (fun v w_1 H locs hq hP hD hS => ?_)
          refine W.widen (k := 712) (n := 85440) (Nat.le_of_ble_eq_true rfl) (Nat.le_of_ble_eq_true rfl) ?_
          rw [hq.2] at hP hD
          rw [hq.1]
          dsimp only [Option.toList, List.cons_append, List.nil_append]
          refine lv_bipush (pc := 708) (v := iv (-72)) hx hb dL_refuses_708 (by decide) ?_
          refine r_icmp_ne (pc := 710) (a := (-72)) (b := (-72)) hx hb dL_refuses_710 (tgt := 748) (by decide) ⟨by omega, by omega⟩ ⟨by omega, by omega⟩ (fun c_710 => ?_) (fun c_710 => ?_)
          · exact absurd c_710 (by decide)
          · have c_710_ := c_710
            refine lv_aload_n (pc := 713) hx hb dL_refuses_713 rfl (lv_at hl 0 rfl) ?_
            refine lv_bipush (pc := 714) (v := iv 14) hx hb dL_refuses_714 (by decide) ?_
            refine lv_iconst (pc := 716) (v := iv 0) hx hb dL_refuses_716 rfl ?_
            refine lv_iload (pc := 717) hx hb dL_refuses_717 (lv_at hl 10 rfl) ?_
            refine lv_iconst (pc := 719) (v := iv 0) hx hb dL_refuses_719 rfl ?_
            refine c_callSW (pc := 720) (y := yL_act) (As := [.ref x, .int (iv 14), .int (iv 0), .int (iv ((-2147483648))), .int (iv 0)]) (rest := []) hC hE hP hD hS hl.1 (A_shown_io l ε hst hH 0 ((-2147483648)) 0 (by decide) (by decide) (by decide) (by omega)) m_4_18 m_4_19 m_0_5 m_4_20 hd_yL_act rfl ⟨⟨by decide, by decide⟩, (Nat.le_of_ble_eq_true rfl), (Nat.le_of_ble_eq_true rfl)⟩ (Nat.le_of_ble_eq_true rfl) rfl dL_refuses_720 kxN (fun v w_2 H locs hq hP hD hS => ?_)
            refine W.widen (k := 714) (n := 85452) (Nat.le_of_ble_eq_true rfl) (Nat.le_of_ble_eq_true rfl) ?_
            rw [hq.2] at hP hD
            rw [hq.1]
            dsimp only [Option.toList, List.cons_append, List.nil_append]
            refine lv_bipush (pc := 723) (v := iv (-71)) hx hb dL_refuses_723 (by decide) ?_
            refine r_icmp_ne (pc := 725) (a := (-71)) (b := (-71)) hx hb dL_refuses_725 (tgt := 748) (by decide) ⟨by omega, by omega⟩ ⟨by omega, by omega⟩ (fun c_725 => ?_) (fun c_725 => ?_)
            · exact absurd c_725 (by decide)
            · have c_725_ := c_725
              refine lv_aload_n (pc := 728) hx hb dL_refuses_728 rfl (lv_at hl 0 rfl) ?_
              refine lv_iconst (pc := 729) (v := iv 0) hx hb dL_refuses_729 rfl ?_
              refine lv_iconst (pc := 730) (v := iv (-1)) hx hb dL_refuses_730 rfl ?_
              refine lv_iconst (pc := 731) (v := iv 0) hx hb dL_refuses_731 rfl ?_
              refine lv_iload (pc := 732) hx hb dL_refuses_732 (lv_at hl 10 rfl) ?_
              refine lv_iconst (pc := 734) (v := iv 0) hx hb dL_refuses_734 rfl ?_
              refine lv_iconst (pc := 735) (v := iv 1) hx hb dL_refuses_735 rfl ?_
              refine c_callSW (pc := 736) (y := yL_taken) (As := [.ref x, .int (iv 0), .int (iv ((-1))), .int (iv 0), .int (iv ((-2147483648))), .int (iv 0), .int (iv 1)]) (rest := []) hC hE hP hD hS hl.1 (A_taken_io l ε hst hH 0 ((-1)) 0 ((-2147483648)) 0 1 (by decide) (by decide) (by decide) (by decide) (by decide) (by decide) (by omega)) m_15_12 m_15_13 m_0_5 m_15_14 hd_yL_taken rfl ⟨⟨by decide, by decide⟩, (Nat.le_of_ble_eq_true rfl), (Nat.le_of_ble_eq_true rfl)⟩ (Nat.le_of_ble_eq_true rfl) rfl dL_refuses_736 kxN (fun v w_3 H locs hq hP hD hS => ?_)
              refine W.widen (k := 720) (n := 85488) (Nat.le_of_ble_eq_true rfl) (Nat.le_of_ble_eq_true rfl) ?_
              rw [hq.2] at hP hD
              rw [hq.1]
              dsimp only [Option.toList, List.cons_append, List.nil_append]
              refine lv_bipush (pc := 739) (v := iv (-71)) hx hb dL_refuses_739 (by decide) ?_
              refine r_icmp_ne (pc := 741) (a := (-71)) (b := (-71)) hx hb dL_refuses_741 (tgt := 748) (by decide) ⟨by omega, by omega⟩ ⟨by omega, by omega⟩ (fun c_741 => ?_) (fun c_741 => ?_)
              · exact absurd c_741 (by decide)
              · have c_741_ := c_741
                refine lv_iconst (pc := 744) (v := iv 1) hx hb dL_refuses_744 rfl ?_
                refine lv_goto (pc := 745) (tgt := 749) hx hb dL_refuses_745 (by decide) ?_
                refine lv_istore (lv' := [(15, .int (iv 1)), (0, .ref x), (1, .int (iv pa)), (2, .int (iv la)), (3, .int (iv ca)), (4, .int (iv (n 3))), (5, .int (iv (clcB G (n 2).toNat))), (6, .int (iv 2147483647)), (7, .int (iv 3)), (8, .int (iv ((-2147483648)))), (9, .int (iv ((-2147483648)))), (10, .int (iv ((-2147483648)))), (11, .int (iv ((-2147483648)))), (12, .int (iv ((-2147483648)))), (13, .int (iv ((-2147483648)))), (14, .int (iv ((-2147483648))))]) (pc := 749) hx hb dL_refuses_749 hl (by decide) rfl (fun ls hl => ?_)
                refine W.widen (k := 720) (n := 85488) (Nat.le_of_ble_eq_true rfl) (Nat.le_of_ble_eq_true rfl) ?_
                exact hnx _ _ _ _ _ _ _ _ _ hC hE hQ _ _ _ _ rfl hP hD hS (lv_sub hl [1, 2, 3, 4, 5, 6, 7, 8, 9, 10, 11, 12, 13, 14, 15, 0] rfl)
        · exact absurd c_694 (by decide)
      · exact absurd c_684 (by decide)
set_option maxRecDepth 100000 in
set_option maxHeartbeats 8000000 in
theorem sr_23 (l : Launch) (ε : EV) (hst : l.stackTraces = false) {x : Nat} {n : Nat → Int} {G : Nat → Nat → Int} {w : va_W} (hHw : HS ε x n G w) (pa la ca : Int) (hpa : pa = n 1) (hla : la = n 2) (hca : ca = n 4) (h3 : n 3 < 512) (hnx : SEG l ε yL_refuses cL_refuses 16 rm_A_refuses (fun v z => v = some (.int (iv 1)) ∧ z = w) 867 744 85632 [(0, .ref x), (1, .int (iv pa)), (2, .int (iv la)), (3, .int (iv ca)), (4, .int (iv (n 3))), (5, .int (iv (clcB G (n 2).toNat))), (6, .int (iv 2147483647)), (7, .int (iv 3)), (8, .int (iv ((-2147483648)))), (9, .int (iv ((-2147483648)))), (10, .int (iv ((-2147483648)))), (11, .int (iv ((-2147483648)))), (12, .int (iv ((-2147483648)))), (13, .int (iv ((-2147483648)))), (14, .int (iv ((-2147483648)))), (15, .int (iv 1))] (fun z => z = w)) : SEG l ε yL_refuses cL_refuses 16 rm_A_refuses (fun v z => v = some (.int (iv 1)) ∧ z = w) 751 720 85488 [(0, .ref x), (1, .int (iv pa)), (2, .int (iv la)), (3, .int (iv ca)), (4, .int (iv (n 3))), (5, .int (iv (clcB G (n 2).toNat))), (6, .int (iv 2147483647)), (7, .int (iv 3)), (8, .int (iv ((-2147483648)))), (9, .int (iv ((-2147483648)))), (10, .int (iv ((-2147483648)))), (11, .int (iv ((-2147483648)))), (12, .int (iv ((-2147483648)))), (13, .int (iv ((-2147483648)))), (14, .int (iv ((-2147483648)))), (15, .int (iv 1))] (fun z => z = w) := by
  intro p9 e9 s9 m9 a9 bl9 me9 c9 Q9 hC hE hQ H locs ls w9 hH hP hD hS hl
  have hx := hC.1
  have hb := hC.2.1
  have hK := hE.K
  subst hH
  have hH := hHw
  obtain ⟨fo, hob⟩ := hH.ob
  have hI := hH.inv
  have hN := hI.NB
  have hlp := lamp_patt hI
  refine lv_iload_n (pc := 751) hx hb dL_refuses_751 rfl (lv_at hl 3 rfl) ?_
  refine r_if_le (pc := 752) (a := ca) hx hb dL_refuses_752 (tgt := 867) (by decide) ⟨by omega, by omega⟩ (fun c_752 => ?_) (fun c_752 => ?_)
  · have c_752_ := c_752
    refine W.widen (k := 744) (n := 85632) (Nat.le_of_ble_eq_true rfl) (Nat.le_of_ble_eq_true rfl) ?_
    exact hnx _ _ _ _ _ _ _ _ _ hC hE hQ _ _ _ _ rfl hP hD hS (lv_sub hl [0, 1, 2, 3, 4, 5, 6, 7, 8, 9, 10, 11, 12, 13, 14, 15] rfl)
  · have c_752_ := c_752
    refine lv_iload_n (pc := 755) hx hb dL_refuses_755 rfl (lv_at hl 2 rfl) ?_
    refine r_if_le (pc := 756) (a := la) hx hb dL_refuses_756 (tgt := 867) (by decide) ⟨by omega, by omega⟩ (fun c_756 => ?_) (fun c_756 => ?_)
    · have c_756_ := c_756
      refine W.widen (k := 744) (n := 85632) (Nat.le_of_ble_eq_true rfl) (Nat.le_of_ble_eq_true rfl) ?_
      exact hnx _ _ _ _ _ _ _ _ _ hC hE hQ _ _ _ _ rfl hP hD hS (lv_sub hl [0, 1, 2, 3, 4, 5, 6, 7, 8, 9, 10, 11, 12, 13, 14, 15] rfl)
    · have c_756_ := c_756
      refine lv_iload (pc := 759) hx hb dL_refuses_759 (lv_at hl 15 rfl) ?_
      refine r_if_eq (pc := 761) (a := 1) hx hb dL_refuses_761 (tgt := 864) (by decide) ⟨by omega, by omega⟩ (fun c_761 => ?_) (fun c_761 => ?_)
      · exact absurd c_761 (by decide)
      · have c_761_ := c_761
        refine lv_aload_n (pc := 764) hx hb dL_refuses_764 rfl (lv_at hl 0 rfl) ?_
        refine lv_iconst (pc := 765) (v := iv 0) hx hb dL_refuses_765 rfl ?_
        refine lv_iload (pc := 766) hx hb dL_refuses_766 (lv_at hl 12 rfl) ?_
        refine lv_iconst (pc := 768) (v := iv 0) hx hb dL_refuses_768 rfl ?_
        refine lv_iconst (pc := 769) (v := iv 0) hx hb dL_refuses_769 rfl ?_
        refine lv_iconst (pc := 770) (v := iv 0) hx hb dL_refuses_770 rfl ?_
        refine lv_iconst (pc := 771) (v := iv 1) hx hb dL_refuses_771 rfl ?_
        refine c_callSW (pc := 772) (y := yL_taken) (As := [.ref x, .int (iv 0), .int (iv ((-2147483648))), .int (iv 0), .int (iv 0), .int (iv 0), .int (iv 1)]) (rest := []) hC hE hP hD hS hl.1 (A_taken_ia l ε hst hH 0 ((-2147483648)) 0 0 0 1 (by decide) (by decide) (by decide) (by decide) (by decide) (by decide) (by omega)) m_15_12 m_15_13 m_0_5 m_15_14 hd_yL_taken rfl ⟨⟨by decide, by decide⟩, (Nat.le_of_ble_eq_true rfl), (Nat.le_of_ble_eq_true rfl)⟩ (Nat.le_of_ble_eq_true rfl) rfl dL_refuses_772 kxN (fun v w_1 H locs hq hP hD hS => ?_)
        refine W.widen (k := 726) (n := 85524) (Nat.le_of_ble_eq_true rfl) (Nat.le_of_ble_eq_true rfl) ?_
        rw [hq.2] at hP hD
        rw [hq.1]
        dsimp only [Option.toList, List.cons_append, List.nil_append]
        refine lv_bipush (pc := 775) (v := iv (-72)) hx hb dL_refuses_775 (by decide) ?_
        refine r_icmp_ne (pc := 777) (a := (-72)) (b := (-72)) hx hb dL_refuses_777 (tgt := 864) (by decide) ⟨by omega, by omega⟩ ⟨by omega, by omega⟩ (fun c_777 => ?_) (fun c_777 => ?_)
        · exact absurd c_777 (by decide)
        · have c_777_ := c_777
          refine lv_aload_n (pc := 780) hx hb dL_refuses_780 rfl (lv_at hl 0 rfl) ?_
          refine lv_iconst (pc := 781) (v := iv 0) hx hb dL_refuses_781 rfl ?_
          refine lv_iconst (pc := 782) (v := iv 0) hx hb dL_refuses_782 rfl ?_
          refine lv_iload (pc := 783) hx hb dL_refuses_783 (lv_at hl 12 rfl) ?_
          refine lv_iconst (pc := 785) (v := iv 0) hx hb dL_refuses_785 rfl ?_
          refine lv_iconst (pc := 786) (v := iv 0) hx hb dL_refuses_786 rfl ?_
          refine lv_iconst (pc := 787) (v := iv 1) hx hb dL_refuses_787 rfl ?_
          refine c_callSW (pc := 788) (y := yL_taken) (As := [.ref x, .int (iv 0), .int (iv 0), .int (iv ((-2147483648))), .int (iv 0), .int (iv 0), .int (iv 1)]) (rest := []) hC hE hP hD hS hl.1 (A_taken_ia l ε hst hH 0 0 ((-2147483648)) 0 0 1 (by decide) (by decide) (by decide) (by decide) (by decide) (by decide) (by omega)) m_15_12 m_15_13 m_0_5 m_15_14 hd_yL_taken rfl ⟨⟨by decide, by decide⟩, (Nat.le_of_ble_eq_true rfl), (Nat.le_of_ble_eq_true rfl)⟩ (Nat.le_of_ble_eq_true rfl) rfl dL_refuses_788 kxN (fun v w_2 H locs hq hP hD hS => ?_)
          refine W.widen (k := 732) (n := 85560) (Nat.le_of_ble_eq_true rfl) (Nat.le_of_ble_eq_true rfl) ?_
          rw [hq.2] at hP hD
          rw [hq.1]
          dsimp only [Option.toList, List.cons_append, List.nil_append]
          refine lv_bipush (pc := 791) (v := iv (-72)) hx hb dL_refuses_791 (by decide) ?_
          refine r_icmp_ne (pc := 793) (a := (-72)) (b := (-72)) hx hb dL_refuses_793 (tgt := 864) (by decide) ⟨by omega, by omega⟩ ⟨by omega, by omega⟩ (fun c_793 => ?_) (fun c_793 => ?_)
          · exact absurd c_793 (by decide)
          · have c_793_ := c_793
            refine lv_aload_n (pc := 796) hx hb dL_refuses_796 rfl (lv_at hl 0 rfl) ?_
            refine lv_iconst (pc := 797) (v := iv 0) hx hb dL_refuses_797 rfl ?_
            refine lv_iconst (pc := 798) (v := iv 0) hx hb dL_refuses_798 rfl ?_
            refine lv_iconst (pc := 799) (v := iv 0) hx hb dL_refuses_799 rfl ?_
            refine lv_iconst (pc := 800) (v := iv 0) hx hb dL_refuses_800 rfl ?_
            refine lv_iload (pc := 801) hx hb dL_refuses_801 (lv_at hl 7 rfl) ?_
            refine lv_iconst (pc := 803) (v := iv 1) hx hb dL_refuses_803 rfl ?_
            refine r_icmp_ne (pc := 804) (a := 3) (b := 1) hx hb dL_refuses_804 (tgt := 813) (by decide) ⟨by omega, by omega⟩ ⟨by omega, by omega⟩ (fun c_804 => ?_) (fun c_804 => ?_)
            · have c_804_ := c_804
              refine lv_iload (pc := 813) hx hb dL_refuses_813 (lv_at hl 8 rfl) ?_
              refine lv_iconst (pc := 815) (v := iv 1) hx hb dL_refuses_815 rfl ?_
              refine c_callSW (pc := 816) (y := yL_taken) (As := [.ref x, .int (iv 0), .int (iv 0), .int (iv 0), .int (iv 0), .int (iv ((-2147483648))), .int (iv 1)]) (rest := []) hC hE hP hD hS hl.1 (A_taken_ia l ε hst hH 0 0 0 0 ((-2147483648)) 1 (by decide) (by decide) (by decide) (by decide) (by decide) (by decide) (by omega)) m_15_12 m_15_13 m_0_5 m_15_14 hd_yL_taken rfl ⟨⟨by decide, by decide⟩, (Nat.le_of_ble_eq_true rfl), (Nat.le_of_ble_eq_true rfl)⟩ (Nat.le_of_ble_eq_true rfl) rfl dL_refuses_816 kxN (fun v w_3 H locs hq hP hD hS => ?_)
              refine W.widen (k := 738) (n := 85596) (Nat.le_of_ble_eq_true rfl) (Nat.le_of_ble_eq_true rfl) ?_
              rw [hq.2] at hP hD
              rw [hq.1]
              dsimp only [Option.toList, List.cons_append, List.nil_append]
              refine lv_bipush (pc := 819) (v := iv (-72)) hx hb dL_refuses_819 (by decide) ?_
              refine r_icmp_ne (pc := 821) (a := (-72)) (b := (-72)) hx hb dL_refuses_821 (tgt := 864) (by decide) ⟨by omega, by omega⟩ ⟨by omega, by omega⟩ (fun c_821 => ?_) (fun c_821 => ?_)
              · exact absurd c_821 (by decide)
              · have c_821_ := c_821
                refine lv_aload_n (pc := 824) hx hb dL_refuses_824 rfl (lv_at hl 0 rfl) ?_
                refine lv_iconst (pc := 825) (v := iv 0) hx hb dL_refuses_825 rfl ?_
                refine lv_iconst (pc := 826) (v := iv 0) hx hb dL_refuses_826 rfl ?_
                refine lv_iconst (pc := 827) (v := iv 0) hx hb dL_refuses_827 rfl ?_
                refine lv_iconst (pc := 828) (v := iv 0) hx hb dL_refuses_828 rfl ?_
                refine lv_iconst (pc := 829) (v := iv 0) hx hb dL_refuses_829 rfl ?_
                refine lv_iload (pc := 830) hx hb dL_refuses_830 (lv_at hl 7 rfl) ?_
                refine r_if_ne (pc := 832) (a := 3) hx hb dL_refuses_832 (tgt := 839) (by decide) ⟨by omega, by omega⟩ (fun c_832 => ?_) (fun c_832 => ?_)
                · have c_832_ := c_832
                  refine lv_iload (pc := 839) hx hb dL_refuses_839 (lv_at hl 7 rfl) ?_
                  refine lv_iconst (pc := 841) (v := iv 1) hx hb dL_refuses_841 rfl ?_
                  refine r_icmp_ne (pc := 842) (a := 3) (b := 1) hx hb dL_refuses_842 (tgt := 850) (by decide) ⟨by omega, by omega⟩ ⟨by omega, by omega⟩ (fun c_842 => ?_) (fun c_842 => ?_)
                  · have c_842_ := c_842
                    refine lv_iload (pc := 850) hx hb dL_refuses_850 (lv_at hl 8 rfl) ?_
                    refine c_callSW (pc := 852) (y := yL_taken) (As := [.ref x, .int (iv 0), .int (iv 0), .int (iv 0), .int (iv 0), .int (iv 0), .int (iv ((-2147483648)))]) (rest := []) hC hE hP hD hS hl.1 (A_taken_ia l ε hst hH 0 0 0 0 0 ((-2147483648)) (by decide) (by decide) (by decide) (by decide) (by decide) (by decide) (by omega)) m_15_12 m_15_13 m_0_5 m_15_14 hd_yL_taken rfl ⟨⟨by decide, by decide⟩, (Nat.le_of_ble_eq_true rfl), (Nat.le_of_ble_eq_true rfl)⟩ (Nat.le_of_ble_eq_true rfl) rfl dL_refuses_852 kxN (fun v w_4 H locs hq hP hD hS => ?_)
                    refine W.widen (k := 744) (n := 85632) (Nat.le_of_ble_eq_true rfl) (Nat.le_of_ble_eq_true rfl) ?_
                    rw [hq.2] at hP hD
                    rw [hq.1]
                    dsimp only [Option.toList, List.cons_append, List.nil_append]
                    refine lv_bipush (pc := 855) (v := iv (-72)) hx hb dL_refuses_855 (by decide) ?_
                    refine r_icmp_ne (pc := 857) (a := (-72)) (b := (-72)) hx hb dL_refuses_857 (tgt := 864) (by decide) ⟨by omega, by omega⟩ ⟨by omega, by omega⟩ (fun c_857 => ?_) (fun c_857 => ?_)
                    · exact absurd c_857 (by decide)
                    · have c_857_ := c_857
                      refine lv_iconst (pc := 860) (v := iv 1) hx hb dL_refuses_860 rfl ?_
                      refine lv_goto (pc := 861) (tgt := 865) hx hb dL_refuses_861 (by decide) ?_
                      refine lv_istore (lv' := [(15, .int (iv 1)), (0, .ref x), (1, .int (iv pa)), (2, .int (iv la)), (3, .int (iv ca)), (4, .int (iv (n 3))), (5, .int (iv (clcB G (n 2).toNat))), (6, .int (iv 2147483647)), (7, .int (iv 3)), (8, .int (iv ((-2147483648)))), (9, .int (iv ((-2147483648)))), (10, .int (iv ((-2147483648)))), (11, .int (iv ((-2147483648)))), (12, .int (iv ((-2147483648)))), (13, .int (iv ((-2147483648)))), (14, .int (iv ((-2147483648))))]) (pc := 865) hx hb dL_refuses_865 hl (by decide) rfl (fun ls hl => ?_)
                      refine W.widen (k := 744) (n := 85632) (Nat.le_of_ble_eq_true rfl) (Nat.le_of_ble_eq_true rfl) ?_
                      exact hnx _ _ _ _ _ _ _ _ _ hC hE hQ _ _ _ _ rfl hP hD hS (lv_sub hl [1, 2, 3, 4, 5, 6, 7, 8, 9, 10, 11, 12, 13, 14, 15, 0] rfl)
                  · exact absurd c_842 (by decide)
                · exact absurd c_832 (by decide)
            · exact absurd c_804 (by decide)
set_option maxRecDepth 100000 in
set_option maxHeartbeats 8000000 in
theorem sr_24 (l : Launch) (ε : EV) (hst : l.stackTraces = false) {x : Nat} {n : Nat → Int} {G : Nat → Nat → Int} {w : va_W} (hHw : HS ε x n G w) (pa la ca : Int) (hpa : pa = n 1) (hla : la = n 2) (hca : ca = n 4) (h3 : n 3 < 512) (hnx : SEG l ε yL_refuses cL_refuses 16 rm_A_refuses (fun v z => v = some (.int (iv 1)) ∧ z = w) 19 744 85632 [(0, .ref x), (1, .int (iv pa)), (2, .int (iv la)), (3, .int (iv ca)), (4, .int (iv (n 3))), (5, .int (iv (clcB G (n 2).toNat))), (6, .int (iv 2147483647)), (7, .int (iv 4))] (fun z => z = w)) : SEG l ε yL_refuses cL_refuses 16 rm_A_refuses (fun v z => v = some (.int (iv 1)) ∧ z = w) 867 744 85632 [(0, .ref x), (1, .int (iv pa)), (2, .int (iv la)), (3, .int (iv ca)), (4, .int (iv (n 3))), (5, .int (iv (clcB G (n 2).toNat))), (6, .int (iv 2147483647)), (7, .int (iv 3)), (8, .int (iv ((-2147483648)))), (9, .int (iv ((-2147483648)))), (10, .int (iv ((-2147483648)))), (11, .int (iv ((-2147483648)))), (12, .int (iv ((-2147483648)))), (13, .int (iv ((-2147483648)))), (14, .int (iv ((-2147483648)))), (15, .int (iv 1))] (fun z => z = w) := by
  intro p9 e9 s9 m9 a9 bl9 me9 c9 Q9 hC hE hQ H locs ls w9 hH hP hD hS hl
  have hx := hC.1
  have hb := hC.2.1
  have hK := hE.K
  subst hH
  have hH := hHw
  obtain ⟨fo, hob⟩ := hH.ob
  have hI := hH.inv
  have hN := hI.NB
  have hlp := lamp_patt hI
  refine lv_iload (pc := 867) hx hb dL_refuses_867 (lv_at hl 15 rfl) ?_
  refine r_if_ne (pc := 869) (a := 1) hx hb dL_refuses_869 (tgt := 874) (by decide) ⟨by omega, by omega⟩ (fun c_869 => ?_) (fun c_869 => ?_)
  · have c_869_ := c_869
    refine lv_iinc (v := iv (4)) (lv' := [(7, .int (iv 4)), (0, .ref x), (1, .int (iv pa)), (2, .int (iv la)), (3, .int (iv ca)), (4, .int (iv (n 3))), (5, .int (iv (clcB G (n 2).toNat))), (6, .int (iv 2147483647)), (8, .int (iv ((-2147483648)))), (9, .int (iv ((-2147483648)))), (10, .int (iv ((-2147483648)))), (11, .int (iv ((-2147483648)))), (12, .int (iv ((-2147483648)))), (13, .int (iv ((-2147483648)))), (14, .int (iv ((-2147483648)))), (15, .int (iv 1))]) (pc := 874) hx hb dL_refuses_874 hl (k := 7) rfl (iv_add _ _) (by decide) rfl (fun ls hl => ?_)
    refine lv_goto (pc := 877) (tgt := 19) hx hb dL_refuses_877 (by decide) ?_
    refine W.widen (k := 744) (n := 85632) (Nat.le_of_ble_eq_true rfl) (Nat.le_of_ble_eq_true rfl) ?_
    exact hnx _ _ _ _ _ _ _ _ _ hC hE hQ _ _ _ _ rfl hP hD hS (lv_sub hl [1, 2, 3, 4, 5, 6, 7, 0] rfl)
  · exact absurd c_869 (by decide)
set_option maxRecDepth 100000 in
set_option maxHeartbeats 8000000 in
theorem sr_25 (l : Launch) (ε : EV) (hst : l.stackTraces = false) {x : Nat} {n : Nat → Int} {G : Nat → Nat → Int} {w : va_W} (hHw : HS ε x n G w) (pa la ca : Int) (hpa : pa = n 1) (hla : la = n 2) (hca : ca = n 4) (h3 : n 3 < 512) : SEG l ε yL_refuses cL_refuses 16 rm_A_refuses (fun v z => v = some (.int (iv 1)) ∧ z = w) 19 744 85632 [(0, .ref x), (1, .int (iv pa)), (2, .int (iv la)), (3, .int (iv ca)), (4, .int (iv (n 3))), (5, .int (iv (clcB G (n 2).toNat))), (6, .int (iv 2147483647)), (7, .int (iv 4))] (fun z => z = w) := by
  intro p9 e9 s9 m9 a9 bl9 me9 c9 Q9 hC hE hQ H locs ls w9 hH hP hD hS hl
  have hx := hC.1
  have hb := hC.2.1
  have hK := hE.K
  subst hH
  have hH := hHw
  obtain ⟨fo, hob⟩ := hH.ob
  have hI := hH.inv
  have hN := hI.NB
  have hlp := lamp_patt hI
  refine lv_iload (pc := 19) hx hb dL_refuses_19 (lv_at hl 7 rfl) ?_
  refine lv_iconst (pc := 21) (v := iv 4) hx hb dL_refuses_21 rfl ?_
  refine r_icmp_ge (pc := 22) (a := 4) (b := 4) hx hb dL_refuses_22 (tgt := 880) (by decide) ⟨by omega, by omega⟩ ⟨by omega, by omega⟩ (fun c_22 => ?_) (fun c_22 => ?_)
  · have c_22_ := c_22
    refine lv_aload_n (pc := 880) hx hb dL_refuses_880 rfl (lv_at hl 0 rfl) ?_
    refine c_callV (pc := 881) (y := yX4_notices) (As := []) (rest := []) hC hE hP hD hS hl.1 (K_notices l ε hst hH) m_1_24 m_2_0 m_2_1 m_0_2 m_2_2 hob rfl hd_yX4_notices rfl ⟨⟨by decide, by decide⟩, (Nat.le_of_ble_eq_true rfl), (Nat.le_of_ble_eq_true rfl)⟩ (Nat.le_of_ble_eq_true rfl) rfl dL_refuses_881 kxN (fun v w_1 H locs hq hP hD hS => ?_)
    refine W.widen (k := 744) (n := 85632) (Nat.le_of_ble_eq_true rfl) (Nat.le_of_ble_eq_true rfl) ?_
    rw [hq.2] at hP hD
    rw [hq.1]
    dsimp only [Option.toList, List.cons_append, List.nil_append]
    refine lv_iload (pc := 884) hx hb dL_refuses_884 (lv_at hl 4 rfl) ?_
    refine r_same_ne (pc := 886) (tgt := 902) hx hb dL_refuses_886 (by decide) ?_
    refine lv_aload_n (pc := 889) hx hb dL_refuses_889 rfl (lv_at hl 0 rfl) ?_
    refine c_callV (pc := 890) (y := yX4_clashes) (As := []) (rest := []) hC hE hP hD hS hl.1 (K_clashes l ε hst hH) m_2_8 m_2_9 m_2_10 m_0_2 m_2_11 hob rfl hd_yX4_clashes rfl ⟨⟨by decide, by decide⟩, (Nat.le_of_ble_eq_true rfl), (Nat.le_of_ble_eq_true rfl)⟩ (Nat.le_of_ble_eq_true rfl) rfl dL_refuses_890 kxN (fun v w_2 H locs hq hP hD hS => ?_)
    refine W.widen (k := 744) (n := 85632) (Nat.le_of_ble_eq_true rfl) (Nat.le_of_ble_eq_true rfl) ?_
    rw [hq.2] at hP hD
    rw [hq.1]
    dsimp only [Option.toList, List.cons_append, List.nil_append]
    refine lv_iload (pc := 893) hx hb dL_refuses_893 (lv_at hl 5 rfl) ?_
    refine r_same_ne (pc := 895) (tgt := 902) hx hb dL_refuses_895 (by decide) ?_
    refine lv_iconst (pc := 898) (v := iv 1) hx hb dL_refuses_898 rfl ?_
    refine lv_goto (pc := 899) (tgt := 903) hx hb dL_refuses_899 (by decide) ?_
    refine c_zret (pc := 903) hC hQ hP hD hS (by decide) (by decide) dL_refuses_903 nz_1 ?_
    exact ⟨rfl, rfl⟩
  · exact absurd c_22 (by decide)
theorem A_refuses (l : Launch) (ε : EV) (hst : l.stackTraces = false) {x : Nat} {n : Nat → Int} {G : Nat → Nat → Int} {w : va_W} (hHw : HS ε x n G w) (pa la ca : Int) (hpa : pa = n 1) (hla : la = n 2) (hca : ca = n 4) (h3 : n 3 < 512) : CT l yL_refuses cL_refuses 16 (some .boolean) rm_A_refuses ε [.ref x, .int (iv pa), .int (iv la), .int (iv ca)] w (fun v z => v = some (.int (iv 1)) ∧ z = w) NX := SEG.ct (P := fun z => z = w) (by decide +kernel) (Nat.le_of_ble_eq_true rfl) rfl (sr_0 l ε hst hHw pa la ca hpa hla hca h3 (sr_1 l ε hst hHw pa la ca hpa hla hca h3 (sr_2 l ε hst hHw pa la ca hpa hla hca h3 (sr_3 l ε hst hHw pa la ca hpa hla hca h3 (sr_4 l ε hst hHw pa la ca hpa hla hca h3 (sr_5 l ε hst hHw pa la ca hpa hla hca h3 (sr_6 l ε hst hHw pa la ca hpa hla hca h3 (sr_7 l ε hst hHw pa la ca hpa hla hca h3 (sr_8 l ε hst hHw pa la ca hpa hla hca h3 (sr_9 l ε hst hHw pa la ca hpa hla hca h3 (sr_10 l ε hst hHw pa la ca hpa hla hca h3 (sr_11 l ε hst hHw pa la ca hpa hla hca h3 (sr_12 l ε hst hHw pa la ca hpa hla hca h3 (sr_13 l ε hst hHw pa la ca hpa hla hca h3 (sr_14 l ε hst hHw pa la ca hpa hla hca h3 (sr_15 l ε hst hHw pa la ca hpa hla hca h3 (sr_16 l ε hst hHw pa la ca hpa hla hca h3 (sr_17 l ε hst hHw pa la ca hpa hla hca h3 (sr_18 l ε hst hHw pa la ca hpa hla hca h3 (sr_19 l ε hst hHw pa la ca hpa hla hca h3 (sr_20 l ε hst hHw pa la ca hpa hla hca h3 (sr_21 l ε hst hHw pa la ca hpa hla hca h3 (sr_22 l ε hst hHw pa la ca hpa hla hca h3 (sr_23 l ε hst hHw pa la ca hpa hla hca h3 (sr_24 l ε hst hHw pa la ca hpa hla hca h3 (sr_25 l ε hst hHw pa la ca hpa hla hca h3))))))))))))))))))))))))))
