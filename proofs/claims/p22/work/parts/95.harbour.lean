/-! the law's harbour by hand: harbour -/
abbrev rm_A_harbour : Room := { frames := 12, cells := 3221, slots := 305422, locals := 587 }
def U0 : ST := ([0, 1, 0, 0, 0], [[2, 3], [2, 3], [2], [5], [], [], [], [], [], [], [], [], [], []])
def U1 : ST := ([0, 2, 0, 0, 0], [[2, 3, 2, 3], [2, 3, 0, 0, 0, 0, 2, 3, 2, 3], [2, 4], [5, 10], [], [], [], [], [], [], [], [], [], []])
def U2 : ST := ([0, 3, 0, 0, 0], [[3, 2, 2, 3], [2, 3, 0, 0, 0, 0, 2, 3, 2, 3, 0, 0, 3, 2], [2, 4, 2], [5, 10, 5], [], [], [], [], [], [], [], [], [], []])
def U3 : ST := ([0, 4, 0, 0, 0], [[1, 1, 2, 3], [2, 3, 0, 0, 0, 0, 2, 3, 2, 3, 0, 0, 3, 2, 0, 0, 0, 0, 1, 1], [2, 4, 2, 2], [5, 10, 5, 2], [], [], [], [], [], [], [], [], [], []])
def U4 : ST := ([0, 4, 1, 1, 0], [[1, 1, 2, 3], [2, 3, 0, 0, 0, 0, 2, 3, 2, 3, 0, 0, 3, 2, 0, 0, 0, 0, 1, 1], [2, 4, 2, 2], [5, 10, 5, 2], [10], [10], [0], [0], [5], [255], [0], [0], [], []])
def U5 : ST := ([0, 4, 1, 2, 0], [[1, 1, 2, 3], [2, 3, 0, 0, 0, 0, 2, 3, 2, 3, 0, 0, 3, 2, 0, 0, 0, 0, 1, 1], [2, 4, 2, 2], [5, 10, 5, 2], [10], [10], [0], [3], [5], [255], [0], [0, 0], [], []])
def U6 : ST := ([0, 4, 2, 3, 0], [[1, 1, 2, 3], [2, 3, 0, 0, 0, 0, 2, 3, 2, 3, 0, 0, 3, 2, 0, 0, 0, 0, 1, 1], [2, 4, 2, 2], [5, 10, 5, 2], [10, 0], [10, 0], [0, 1], [3, 0], [5, 40], [255, 1], [0, 0], [0, 0, 33], [], []])
def U7 : ST := ([0, 4, 3, 4, 0], [[1, 1, 2, 3], [2, 3, 0, 0, 0, 0, 2, 3, 2, 3, 0, 0, 3, 2, 0, 0, 0, 0, 1, 1], [2, 4, 2, 2], [5, 10, 5, 2], [10, 0, 31], [10, 0, 31], [0, 1, 3], [3, 0, 0], [5, 40, 1], [255, 1, 255], [0, 0, 0], [0, 0, 33, 67], [], []])
def U8 : ST := ([0, 4, 4, 5, 0], [[1, 1, 2, 3], [2, 3, 0, 0, 0, 0, 2, 3, 2, 3, 0, 0, 3, 2, 0, 0, 0, 0, 1, 1], [2, 4, 2, 2], [5, 10, 5, 2], [10, 0, 31, 20], [10, 0, 31, 10], [0, 1, 3, 2], [3, 0, 0, 0], [5, 40, 1, 5], [255, 1, 255, 255], [0, 0, 0, 0], [0, 0, 33, 67, 98], [], []])
def U9 : ST := ([0, 4, 4, 5, 1], [[1, 1, 2, 3], [2, 3, 0, 0, 0, 0, 2, 3, 2, 3, 0, 0, 3, 2, 0, 0, 0, 0, 1, 1], [2, 4, 2, 2], [5, 10, 5, 2], [10, 0, 31, 20], [10, 0, 31, 10], [0, 1, 3, 2], [3, 0, 0, 0], [5, 40, 1, 5], [255, 1, 255, 255], [0, 0, 0, 0], [0, 0, 33, 67, 98], [5], [0, 1, 3, 2, -1, -1, -1, -1, -1, -1, -1, -1]])
def U10 : ST := ([0, 4, 4, 6, 1], [[1, 1, 2, 3], [2, 3, 0, 0, 0, 0, 2, 3, 2, 3, 0, 0, 3, 2, 0, 0, 0, 0, 1, 1], [2, 4, 2, 2], [5, 10, 5, 2], [10, 0, 31, 20], [10, 0, 31, 10], [0, 1, 3, 0], [3, 0, 0, 0], [5, 40, 1, 5], [255, 1, 255, 255], [0, 0, 0, 0], [0, 0, 33, 67, 98, 96], [5], [0, 1, 3, 2, -1, -1, -1, -1, -1, -1, -1, -1]])
def U11 : ST := ([0, 4, 4, 7, 1], [[1, 1, 2, 3], [2, 3, 0, 0, 0, 0, 2, 3, 2, 3, 0, 0, 3, 2, 0, 0, 0, 0, 1, 1], [2, 4, 2, 2], [5, 10, 5, 2], [10, 0, 31, 20], [10, 0, 31, 10], [0, 1, 0, 0], [3, 0, 59, 0], [5, 40, 1, 5], [255, 1, 255, 255], [0, 0, 0, 0], [0, 0, 33, 67, 98, 96, 64], [5], [0, 1, 3, 2, -1, -1, -1, -1, -1, -1, -1, -1]])
def U12 : ST := ([0, 4, 4, 7, 1], [[1, 1, 2, 3], [2, 3, 0, 0, 0, 0, 2, 3, 2, 3, 0, 0, 3, 2, 0, 0, 0, 0, 1, 1], [2, 4, 2, 2], [5, 10, 5, 2], [10, 0, 31, 20], [10, 0, 31, 10], [0, 1, 0, 0], [3, 0, 59, 0], [5, 40, 1, 5], [255, 1, 255, 255], [0, 0, 0, 0], [0, 0, 33, 67, 98, 96, 64], [6], [0, 1, 3, 0, -1, -1, -1, -1, -1, -1, -1, -1]])
def U13 : ST := ([0, 4, 4, 7, 1], [[1, 1, 2, 3], [2, 3, 0, 0, 0, 0, 2, 3, 2, 3, 0, 0, 3, 2, 0, 0, 0, 0, 1, 1], [2, 4, 2, 2], [5, 10, 5, 2], [10, 0, 31, 20], [10, 0, 31, 10], [0, 1, 0, 0], [3, 0, 59, 0], [5, 40, 1, 5], [255, 1, 255, 255], [0, 0, 0, 0], [0, 0, 33, 67, 98, 96, 64], [7], [0, 1, 0, 0, -1, -1, -1, -1, -1, -1, -1, -1]])
def U14 : ST := ([0, 4, 4, 8, 1], [[1, 1, 2, 3], [2, 3, 0, 0, 0, 0, 2, 3, 2, 3, 0, 0, 3, 2, 0, 0, 0, 0, 1, 1], [2, 4, 2, 2], [5, 10, 5, 2], [10, 0, 31, 20], [10, 0, 31, 10], [0, 1, 0, 2], [3, 0, 59, 0], [5, 40, 1, 5], [255, 1, 255, 255], [0, 0, 0, 0], [0, 0, 33, 67, 98, 96, 64, 98], [7], [0, 1, 0, 0, -1, -1, -1, -1, -1, -1, -1, -1]])
def U15 : ST := ([0, 4, 4, 8, 2], [[1, 1, 2, 3], [2, 3, 0, 0, 0, 0, 2, 3, 2, 3, 0, 0, 3, 2, 0, 0, 0, 0, 1, 1], [2, 4, 2, 2], [5, 10, 5, 2], [10, 0, 31, 20], [10, 0, 31, 10], [0, 1, 0, 2], [3, 0, 59, 0], [5, 40, 1, 5], [255, 1, 255, 255], [0, 0, 0, 0], [0, 0, 33, 67, 98, 96, 64, 98], [7, 8], [0, 1, 0, 0, -1, -1, -1, -1, -1, -1, -1, -1, 0, 1, 0, 2, -1, -1, -1, -1, -1, -1, -1, -1]])
def U16 : ST := ([0, 4, 4, 9, 2], [[1, 1, 2, 3], [2, 3, 0, 0, 0, 0, 2, 3, 2, 3, 0, 0, 3, 2, 0, 0, 0, 0, 1, 1], [2, 4, 2, 2], [5, 10, 5, 2], [10, 0, 31, 20], [10, 0, 31, 10], [0, 1, 0, 2], [3, 0, 59, 0], [5, 40, 1, 5], [255, 1, 255, 255], [0, 0, 0, 1], [0, 0, 33, 67, 98, 96, 64, 98, 127], [7, 8], [0, 1, 0, 0, -1, -1, -1, -1, -1, -1, -1, -1, 0, 1, 0, 2, -1, -1, -1, -1, -1, -1, -1, -1]])
def U17 : ST := ([0, 4, 4, 9, 2], [[1, 1, 2, 3], [2, 3, 0, 0, 0, 0, 2, 3, 2, 3, 0, 0, 3, 2, 0, 0, 0, 0, 1, 1], [2, 4, 2, 2], [5, 10, 5, 2], [10, 0, 31, 20], [10, 0, 31, 10], [0, 1, 0, 2], [3, 0, 59, 0], [5, 40, 1, 5], [255, 1, 255, 255], [0, 0, 0, 1], [0, 0, 33, 67, 98, 96, 64, 98, 127], [7, 9], [0, 1, 0, 0, -1, -1, -1, -1, -1, -1, -1, -1, 0, 1, 0, -1, -1, -1, -1, -1, -1, -1, -1, -1]])
def U18 : ST := ([0, 4, 4, 10, 2], [[1, 1, 2, 3], [2, 3, 0, 0, 0, 0, 2, 3, 2, 3, 0, 0, 3, 2, 0, 0, 0, 0, 1, 1], [2, 4, 2, 2], [5, 10, 5, 2], [10, 0, 31, 20], [10, 0, 31, 10], [0, 1, 0, 3], [3, 0, 59, 0], [5, 40, 1, 5], [255, 1, 255, 255], [0, 0, 0, 1], [0, 0, 33, 67, 98, 96, 64, 98, 127, 127], [7, 9], [0, 1, 0, 0, -1, -1, -1, -1, -1, -1, -1, -1, 0, 1, 0, -1, -1, -1, -1, -1, -1, -1, -1, -1]])
def U19 : ST := ([0, 4, 4, 10, 2], [[1, 1, 2, 3], [2, 3, 0, 0, 0, 0, 2, 3, 2, 3, 0, 0, 3, 2, 0, 0, 0, 0, 1, 1], [2, 4, 2, 2], [5, 10, 5, 2], [10, 0, 31, 20], [10, 0, 31, 10], [0, 1, 0, 3], [3, 0, 59, 0], [5, 40, 1, 5], [255, 1, 255, 255], [0, 0, 0, 1], [0, 0, 33, 67, 98, 96, 64, 98, 127, 127], [7, 10], [0, 1, 0, 0, -1, -1, -1, -1, -1, -1, -1, -1, 0, 1, 0, -1, -1, -1, -1, -1, -1, -1, -1, -1]])
def U20 : ST := ([0, 4, 4, 10, 3], [[1, 1, 2, 3], [2, 3, 0, 0, 0, 0, 2, 3, 2, 3, 0, 0, 3, 2, 0, 0, 0, 0, 1, 1], [2, 4, 2, 2], [5, 10, 5, 2], [10, 0, 31, 20], [10, 0, 31, 10], [0, 1, 0, 3], [3, 0, 59, 0], [5, 40, 1, 5], [255, 1, 255, 255], [0, 0, 0, 1], [0, 0, 33, 67, 98, 96, 64, 98, 127, 127], [7, 10, 10], [0, 1, 0, 0, -1, -1, -1, -1, -1, -1, -1, -1, 0, 1, 0, -1, -1, -1, -1, -1, -1, -1, -1, -1, 0, 1, 0, -1, -1, -1, -1, -1, -1, -1, -1, -1]])
def U21 : ST := ([0, 4, 4, 11, 3], [[1, 1, 2, 3], [2, 3, 0, 0, 0, 0, 2, 3, 2, 3, 0, 0, 3, 2, 0, 0, 0, 0, 1, 1], [2, 4, 2, 2], [5, 10, 5, 2], [10, 0, 31, 20], [10, 0, 31, 10], [0, 1, 0, 3], [3, 0, 59, 0], [5, 40, 1, 5], [255, 1, 255, 255], [0, 0, 0, 0], [0, 0, 33, 67, 98, 96, 64, 98, 127, 127, 99], [7, 10, 10], [0, 1, 0, 0, -1, -1, -1, -1, -1, -1, -1, -1, 0, 1, 0, -1, -1, -1, -1, -1, -1, -1, -1, -1, 0, 1, 0, -1, -1, -1, -1, -1, -1, -1, -1, -1]])
def U22 : ST := ([0, 4, 4, 11, 3], [[1, 1, 2, 3], [2, 3, 0, 0, 0, 0, 2, 3, 2, 3, 0, 0, 3, 2, 0, 0, 0, 0, 1, 1], [2, 4, 2, 2], [5, 10, 5, 2], [10, 0, 31, 20], [10, 0, 31, 10], [0, 1, 0, 3], [3, 0, 59, 0], [5, 40, 1, 5], [255, 1, 255, 255], [0, 0, 0, 0], [0, 0, 33, 67, 98, 96, 64, 98, 127, 127, 99], [7, 11, 10], [0, 1, 0, 0, -1, -1, -1, -1, -1, -1, -1, -1, 0, 1, 0, 3, -1, -1, -1, -1, -1, -1, -1, -1, 0, 1, 0, -1, -1, -1, -1, -1, -1, -1, -1, -1]])
def U23 : ST := ([0, 4, 4, 11, 3], [[1, 1, 2, 3], [2, 3, 0, 0, 0, 0, 2, 3, 2, 3, 0, 0, 3, 2, 0, 0, 0, 0, 1, 1], [2, 4, 2, 2], [5, 10, 5, 2], [10, 0, 31, 20], [10, 0, 31, 10], [0, 1, 0, 3], [3, 0, 59, 0], [5, 40, 1, 5], [255, 1, 255, 255], [0, 0, 0, 0], [0, 0, 33, 67, 98, 96, 64, 98, 127, 127, 99], [9, 11, 10], [0, 1, 0, -1, -1, -1, -1, -1, -1, -1, -1, -1, 0, 1, 0, 3, -1, -1, -1, -1, -1, -1, -1, -1, 0, 1, 0, -1, -1, -1, -1, -1, -1, -1, -1, -1]])
def U24 : ST := ([0, 4, 4, 11, 3], [[1, 1, 2, 3], [2, 3, 0, 0, 0, 0, 2, 3, 2, 3, 0, 0, 3, 2, 0, 0, 0, 0, 1, 1], [2, 4, 2, 2], [5, 10, 5, 2], [10, 0, 31, 20], [10, 0, 31, 10], [0, 1, 0, 3], [3, 0, 59, 0], [5, 40, 1, 5], [255, 1, 255, 255], [0, 0, 0, 0], [0, 0, 33, 67, 98, 96, 64, 98, 127, 127, 99], [11, 11, 10], [0, 1, 0, 3, -1, -1, -1, -1, -1, -1, -1, -1, 0, 1, 0, 3, -1, -1, -1, -1, -1, -1, -1, -1, 0, 1, 0, -1, -1, -1, -1, -1, -1, -1, -1, -1]])
set_option maxRecDepth 100000 in
set_option maxHeartbeats 8000000 in
theorem sU_0 (l : Launch) (ε : EV) (hst : l.stackTraces = false)  (hnx : ∀ x : Nat, SEG l ε yL_harbour cL_harbour 1 rm_A_harbour (fun v z => v = some (.int (iv 1))) 66 60 15856 [(0, .ref x)] (fun z => HC ε x U3 z)) : SEG l ε yL_harbour cL_harbour 1 rm_A_harbour (fun v z => v = some (.int (iv 1))) 0 0 0 [] (fun _ => True) := by
  intro p9 e9 s9 m9 a9 bl9 me9 c9 Q9 hC hE hQ H locs ls w9 hH hP hD hS hl
  have hx := hC.1
  have hb := hC.2.1
  have hK := hE.K
  refine z_new (pc := 0) (ix := 8) (iy := 95) hC hE hS hl.1 m_0_0 m_0_13 dL_harbour_0 dL_harbour_3 dL_harbour_4 ⟨by decide, by decide⟩ ⟨(Nat.le_of_ble_eq_true rfl), (Nat.le_of_ble_eq_true rfl)⟩ (fun x H locs w1 hH hP hD hS => ?_)
  obtain ⟨fo, hob⟩ := hH.ob
  refine lv_astore_n (lv' := [(0, .ref x)]) (pc := 7) hx hb dL_harbour_7 rfl hl (by decide) rfl (fun ls hl => ?_)
  refine lv_aload_n (pc := 8) hx hb dL_harbour_8 rfl (lv_at hl 0 rfl) ?_
  refine lv_bipush (pc := 9) (v := iv 23) hx hb dL_harbour_9 (by decide) ?_
  refine c_callS (pc := 11) (y := yL_pattern) (As := [.ref x, .int (iv 23)]) (rest := []) hC hE hP hD hS hl.1 (A_pat2 l ε hst hH (by decide +kernel) (by decide +kernel) 23 2 3 (by decide +kernel) (by decide +kernel) (by decide +kernel)) m_16_6 m_16_7 m_0_5 m_16_8 hd_yL_pattern rfl ⟨⟨by decide, by decide⟩, (Nat.le_of_ble_eq_true rfl), (Nat.le_of_ble_eq_true rfl)⟩ (Nat.le_of_ble_eq_true rfl) rfl dL_harbour_11 kxN (fun v w_1 H locs hq hP hD hS => ?_)
  refine W.widen (k := 15) (n := 3160) (Nat.le_of_ble_eq_true rfl) (Nat.le_of_ble_eq_true rfl) ?_
  have hH : HC ε x U0 w_1 := hq.2.cv (S := U0) (by decide +kernel)
  obtain ⟨fo, hob⟩ := hH.ob
  rw [hq.1]
  dsimp only [Option.toList, List.cons_append, List.nil_append]
  rw [show nS S0 1 = 0 by decide +kernel]
  refine r_if_ne (pc := 14) (a := 0) hx hb dL_harbour_14 (tgt := 404) (by decide) ⟨by omega, by omega⟩ (fun c_14 => ?_) (fun c_14 => ?_)
  · exact absurd c_14 (by decide)
  · have c_14_ := c_14
    refine lv_aload_n (pc := 17) hx hb dL_harbour_17 rfl (lv_at hl 0 rfl) ?_
    refine lv_sipush (pc := 18) (v := iv 2323) hx hb dL_harbour_18 (by decide) ?_
    refine c_callS (pc := 21) (y := yL_pattern) (As := [.ref x, .int (iv 2323)]) (rest := []) hC hE hP hD hS hl.1 (A_pat4 l ε hst hH (by decide +kernel) (by decide +kernel) 2323 2 3 2 3 (by decide +kernel) (by decide +kernel) (by decide +kernel) (by decide +kernel) (by decide +kernel)) m_16_6 m_16_7 m_0_5 m_16_8 hd_yL_pattern rfl ⟨⟨by decide, by decide⟩, (Nat.le_of_ble_eq_true rfl), (Nat.le_of_ble_eq_true rfl)⟩ (Nat.le_of_ble_eq_true rfl) rfl dL_harbour_21 kxN (fun v w_2 H locs hq hP hD hS => ?_)
    refine W.widen (k := 28) (n := 6308) (Nat.le_of_ble_eq_true rfl) (Nat.le_of_ble_eq_true rfl) ?_
    have hH : HC ε x U1 w_2 := hq.2.cv (S := U1) (by decide +kernel)
    obtain ⟨fo, hob⟩ := hH.ob
    rw [hq.1]
    dsimp only [Option.toList, List.cons_append, List.nil_append]
    rw [show nS U0 1 = 1 by decide +kernel]
    refine lv_iconst (pc := 24) (v := iv 1) hx hb dL_harbour_24 rfl ?_
    refine r_icmp_ne (pc := 25) (a := 1) (b := 1) hx hb dL_harbour_25 (tgt := 404) (by decide) ⟨by omega, by omega⟩ ⟨by omega, by omega⟩ (fun c_25 => ?_) (fun c_25 => ?_)
    · exact absurd c_25 (by decide)
    · have c_25_ := c_25
      refine lv_aload_n (pc := 28) hx hb dL_harbour_28 rfl (lv_at hl 0 rfl) ?_
      refine lv_bipush (pc := 29) (v := iv 32) hx hb dL_harbour_29 (by decide) ?_
      refine c_callS (pc := 31) (y := yL_pattern) (As := [.ref x, .int (iv 32)]) (rest := []) hC hE hP hD hS hl.1 (A_pat2 l ε hst hH (by decide +kernel) (by decide +kernel) 32 3 2 (by decide +kernel) (by decide +kernel) (by decide +kernel)) m_16_6 m_16_7 m_0_5 m_16_8 hd_yL_pattern rfl ⟨⟨by decide, by decide⟩, (Nat.le_of_ble_eq_true rfl), (Nat.le_of_ble_eq_true rfl)⟩ (Nat.le_of_ble_eq_true rfl) rfl dL_harbour_31 kxN (fun v w_3 H locs hq hP hD hS => ?_)
      refine W.widen (k := 37) (n := 9432) (Nat.le_of_ble_eq_true rfl) (Nat.le_of_ble_eq_true rfl) ?_
      have hH : HC ε x U2 w_3 := hq.2.cv (S := U2) (by decide +kernel)
      obtain ⟨fo, hob⟩ := hH.ob
      rw [hq.1]
      dsimp only [Option.toList, List.cons_append, List.nil_append]
      rw [show nS U1 1 = 2 by decide +kernel]
      refine lv_iconst (pc := 34) (v := iv 2) hx hb dL_harbour_34 rfl ?_
      refine r_icmp_ne (pc := 35) (a := 2) (b := 2) hx hb dL_harbour_35 (tgt := 404) (by decide) ⟨by omega, by omega⟩ ⟨by omega, by omega⟩ (fun c_35 => ?_) (fun c_35 => ?_)
      · exact absurd c_35 (by decide)
      · have c_35_ := c_35
        refine lv_aload_n (pc := 38) hx hb dL_harbour_38 rfl (lv_at hl 0 rfl) ?_
        refine lv_bipush (pc := 39) (v := iv 11) hx hb dL_harbour_39 (by decide) ?_
        refine c_callS (pc := 41) (y := yL_pattern) (As := [.ref x, .int (iv 11)]) (rest := []) hC hE hP hD hS hl.1 (A_pat2 l ε hst hH (by decide +kernel) (by decide +kernel) 11 1 1 (by decide +kernel) (by decide +kernel) (by decide +kernel)) m_16_6 m_16_7 m_0_5 m_16_8 hd_yL_pattern rfl ⟨⟨by decide, by decide⟩, (Nat.le_of_ble_eq_true rfl), (Nat.le_of_ble_eq_true rfl)⟩ (Nat.le_of_ble_eq_true rfl) rfl dL_harbour_41 kxN (fun v w_4 H locs hq hP hD hS => ?_)
        refine W.widen (k := 46) (n := 12556) (Nat.le_of_ble_eq_true rfl) (Nat.le_of_ble_eq_true rfl) ?_
        have hH : HC ε x U3 w_4 := hq.2.cv (S := U3) (by decide +kernel)
        obtain ⟨fo, hob⟩ := hH.ob
        rw [hq.1]
        dsimp only [Option.toList, List.cons_append, List.nil_append]
        rw [show nS U2 1 = 3 by decide +kernel]
        refine lv_iconst (pc := 44) (v := iv 3) hx hb dL_harbour_44 rfl ?_
        refine r_icmp_ne (pc := 45) (a := 3) (b := 3) hx hb dL_harbour_45 (tgt := 404) (by decide) ⟨by omega, by omega⟩ ⟨by omega, by omega⟩ (fun c_45 => ?_) (fun c_45 => ?_)
        · exact absurd c_45 (by decide)
        · have c_45_ := c_45
          refine lv_aload_n (pc := 48) hx hb dL_harbour_48 rfl (lv_at hl 0 rfl) ?_
          refine lv_bipush (pc := 49) (v := iv 10) hx hb dL_harbour_49 (by decide) ?_
          refine lv_bipush (pc := 51) (v := iv 10) hx hb dL_harbour_51 (by decide) ?_
          refine lv_iconst (pc := 53) (v := iv 4) hx hb dL_harbour_53 rfl ?_
          refine lv_iconst (pc := 54) (v := iv 5) hx hb dL_harbour_54 rfl ?_
          refine lv_sipush (pc := 55) (v := iv 255) hx hb dL_harbour_55 (by decide) ?_
          refine c_callSW (pc := 58) (y := yL_lamp) (As := [.ref x, .int (iv 10), .int (iv 10), .int (iv 4), .int (iv 5), .int (iv 255)]) (rest := []) hC hE hP hD hS hl.1 (A_lamp_io l ε hst hH 10 10 4 5 255 (by decide) (by decide) (by decide) (by decide) (by decide) (by decide +kernel) (by decide +kernel)) m_14_15 m_14_16 m_0_5 m_14_17 hd_yL_lamp rfl ⟨⟨by decide, by decide⟩, (Nat.le_of_ble_eq_true rfl), (Nat.le_of_ble_eq_true rfl)⟩ (Nat.le_of_ble_eq_true rfl) rfl dL_harbour_58 kxN (fun v w_5 H locs hq hP hD hS => ?_)
          refine W.widen (k := 60) (n := 15856) (Nat.le_of_ble_eq_true rfl) (Nat.le_of_ble_eq_true rfl) ?_
          rw [hq.2] at hP hD
          rw [hq.1]
          dsimp only [Option.toList, List.cons_append, List.nil_append]
          refine lv_bipush (pc := 61) (v := iv (-71)) hx hb dL_harbour_61 (by decide) ?_
          refine r_icmp_ne (pc := 63) (a := (-71)) (b := (-71)) hx hb dL_harbour_63 (tgt := 404) (by decide) ⟨by omega, by omega⟩ ⟨by omega, by omega⟩ (fun c_63 => ?_) (fun c_63 => ?_)
          · exact absurd c_63 (by decide)
          · have c_63_ := c_63
            refine W.widen (k := 60) (n := 15856) (Nat.le_of_ble_eq_true rfl) (Nat.le_of_ble_eq_true rfl) ?_
            exact (hnx x) _ _ _ _ _ _ _ _ _ hC hE hQ _ _ _ _ hH hP hD hS (lv_sub hl [0] rfl)
set_option maxRecDepth 100000 in
set_option maxHeartbeats 8000000 in
theorem sU_1 (l : Launch) (ε : EV) (hst : l.stackTraces = false) {x : Nat}  (hnx : SEG l ε yL_harbour cL_harbour 1 rm_A_harbour (fun v z => v = some (.int (iv 1))) 126 202 21056 [(0, .ref x)] (fun z => HC ε x U5 z)) : SEG l ε yL_harbour cL_harbour 1 rm_A_harbour (fun v z => v = some (.int (iv 1))) 66 60 15856 [(0, .ref x)] (fun z => HC ε x U3 z) := by
  intro p9 e9 s9 m9 a9 bl9 me9 c9 Q9 hC hE hQ H locs ls w9 hH hP hD hS hl
  have hx := hC.1
  have hb := hC.2.1
  have hK := hE.K
  obtain ⟨fo, hob⟩ := hH.ob
  refine lv_aload_n (pc := 66) hx hb dL_harbour_66 rfl (lv_at hl 0 rfl) ?_
  refine lv_bipush (pc := 67) (v := iv 10) hx hb dL_harbour_67 (by decide) ?_
  refine lv_bipush (pc := 69) (v := iv 10) hx hb dL_harbour_69 (by decide) ?_
  refine lv_iconst (pc := 71) (v := iv 0) hx hb dL_harbour_71 rfl ?_
  refine lv_iconst (pc := 72) (v := iv 5) hx hb dL_harbour_72 rfl ?_
  refine lv_sipush (pc := 73) (v := iv 255) hx hb dL_harbour_73 (by decide) ?_
  refine c_callV (pc := 76) (y := yX4_lamp) (As := [.int (iv 10), .int (iv 10), .int (iv 0), .int (iv 5), .int (iv 255)]) (rest := []) hC hE hP hD hS hl.1 (K_lamp l ε hst hH 10 10 0 5 255 (by decide +kernel) (by decide +kernel) (by decide +kernel) (by decide +kernel) (by decide +kernel) (by decide +kernel)) m_14_18 m_14_19 m_14_20 m_0_2 m_14_21 hob rfl hd_yX4_lamp rfl ⟨⟨by decide, by decide⟩, (Nat.le_of_ble_eq_true rfl), (Nat.le_of_ble_eq_true rfl)⟩ (Nat.le_of_ble_eq_true rfl) rfl dL_harbour_76 kxN (fun v w_1 H locs hq hP hD hS => ?_)
  refine W.widen (k := 74) (n := 19156) (Nat.le_of_ble_eq_true rfl) (Nat.le_of_ble_eq_true rfl) ?_
  have hH : HC ε x U4 w_1 := hq.2.cv (S := U4) (by decide +kernel)
  obtain ⟨fo, hob⟩ := hH.ob
  rw [hq.1]
  dsimp only [Option.toList, List.cons_append, List.nil_append]
  rw [show nS U3 2 = 0 by decide +kernel]
  refine r_if_ne (pc := 79) (a := 0) hx hb dL_harbour_79 (tgt := 404) (by decide) ⟨by omega, by omega⟩ (fun c_79 => ?_) (fun c_79 => ?_)
  · exact absurd c_79 (by decide)
  · have c_79_ := c_79
    refine lv_aload_n (pc := 82) hx hb dL_harbour_82 rfl (lv_at hl 0 rfl) ?_
    refine c_callV (pc := 83) (y := yX4_notices) (As := []) (rest := []) hC hE hP hD hS hl.1 (K_notices l ε hst hH  ) m_1_24 m_2_0 m_2_1 m_0_2 m_2_2 hob rfl hd_yX4_notices rfl ⟨⟨by decide, by decide⟩, (Nat.le_of_ble_eq_true rfl), (Nat.le_of_ble_eq_true rfl)⟩ (Nat.le_of_ble_eq_true rfl) rfl dL_harbour_83 kxN (fun v w_2 H locs hq hP hD hS => ?_)
    refine W.widen (k := 74) (n := 19156) (Nat.le_of_ble_eq_true rfl) (Nat.le_of_ble_eq_true rfl) ?_
    rw [hq.2] at hP hD
    rw [hq.1]
    dsimp only [Option.toList, List.cons_append, List.nil_append]
    rw [show nS U4 3 = 1 by decide +kernel]
    refine lv_iconst (pc := 86) (v := iv 1) hx hb dL_harbour_86 rfl ?_
    refine r_icmp_ne (pc := 87) (a := 1) (b := 1) hx hb dL_harbour_87 (tgt := 404) (by decide) ⟨by omega, by omega⟩ ⟨by omega, by omega⟩ (fun c_87 => ?_) (fun c_87 => ?_)
    · exact absurd c_87 (by decide)
    · have c_87_ := c_87
      refine lv_aload_n (pc := 90) hx hb dL_harbour_90 rfl (lv_at hl 0 rfl) ?_
      refine lv_iconst (pc := 91) (v := iv 0) hx hb dL_harbour_91 rfl ?_
      refine lv_iconst (pc := 92) (v := iv 0) hx hb dL_harbour_92 rfl ?_
      refine lv_bipush (pc := 93) (v := iv 10) hx hb dL_harbour_93 (by decide) ?_
      refine lv_bipush (pc := 95) (v := iv 99) hx hb dL_harbour_95 (by decide) ?_
      refine c_callS (pc := 97) (y := yL_shines) (As := [.ref x, .int (iv 0), .int (iv 0), .int (iv 10), .int (iv 99)]) (rest := []) hC hE hP hD hS hl.1 (A_shines l ε hst hH 0 0 10 99 (by decide +kernel) (by decide +kernel) (by decide +kernel) (by decide +kernel) (shinesB_ok (by decide +kernel))) m_16_16 m_16_17 m_0_5 m_16_18 hd_yL_shines rfl ⟨⟨by decide, by decide⟩, (Nat.le_of_ble_eq_true rfl), (Nat.le_of_ble_eq_true rfl)⟩ (Nat.le_of_ble_eq_true rfl) rfl dL_harbour_97 kxN (fun v w_3 H locs hq hP hD hS => ?_)
      refine W.widen (k := 134) (n := 19556) (Nat.le_of_ble_eq_true rfl) (Nat.le_of_ble_eq_true rfl) ?_
      rw [hq.2] at hP hD
      rw [hq.1]
      dsimp only [Option.toList, List.cons_append, List.nil_append]
      refine r_if_eq (pc := 100) (a := 1) hx hb dL_harbour_100 (tgt := 404) (by decide) ⟨by omega, by omega⟩ (fun c_100 => ?_) (fun c_100 => ?_)
      · exact absurd c_100 (by decide)
      · have c_100_ := c_100
        refine lv_aload_n (pc := 103) hx hb dL_harbour_103 rfl (lv_at hl 0 rfl) ?_
        refine lv_iconst (pc := 104) (v := iv 0) hx hb dL_harbour_104 rfl ?_
        refine lv_ldc (pc := 105) (own := RL) (v := iv 100000) hx hb hC.2.2.2.1 (by rw [show iv 100000 = (100000 : Int32) by decide]; exact hC.2.2.2.2.1 _ m_16_15) dL_harbour_105 ?_
        refine lv_iconst (pc := 107) (v := iv 1) hx hb dL_harbour_107 rfl ?_
        refine lv_iconst (pc := 108) (v := iv 1) hx hb dL_harbour_108 rfl ?_
        refine c_callS (pc := 109) (y := yL_shines) (As := [.ref x, .int (iv 0), .int (iv 100000), .int (iv 1), .int (iv 1)]) (rest := []) hC hE hP hD hS hl.1 (A_shines l ε hst hH 0 100000 1 1 (by decide +kernel) (by decide +kernel) (by decide +kernel) (by decide +kernel) (shinesB_ok (by decide +kernel))) m_16_16 m_16_17 m_0_5 m_16_18 hd_yL_shines rfl ⟨⟨by decide, by decide⟩, (Nat.le_of_ble_eq_true rfl), (Nat.le_of_ble_eq_true rfl)⟩ (Nat.le_of_ble_eq_true rfl) rfl dL_harbour_109 kxN (fun v w_4 H locs hq hP hD hS => ?_)
        refine W.widen (k := 194) (n := 19956) (Nat.le_of_ble_eq_true rfl) (Nat.le_of_ble_eq_true rfl) ?_
        rw [hq.2] at hP hD
        rw [hq.1]
        dsimp only [Option.toList, List.cons_append, List.nil_append]
        refine r_if_eq (pc := 112) (a := 1) hx hb dL_harbour_112 (tgt := 404) (by decide) ⟨by omega, by omega⟩ (fun c_112 => ?_) (fun c_112 => ?_)
        · exact absurd c_112 (by decide)
        · have c_112_ := c_112
          refine lv_aload_n (pc := 115) hx hb dL_harbour_115 rfl (lv_at hl 0 rfl) ?_
          refine lv_iconst (pc := 116) (v := iv 0) hx hb dL_harbour_116 rfl ?_
          refine lv_iconst (pc := 117) (v := iv 0) hx hb dL_harbour_117 rfl ?_
          refine lv_iconst (pc := 118) (v := iv 3) hx hb dL_harbour_118 rfl ?_
          refine c_callV (pc := 119) (y := yX4_change) (As := [.int (iv 0), .int (iv 0), .int (iv 3)]) (rest := []) hC hE hP hD hS hl.1 (K_change l ε hst hH 0 0 3 (by decide +kernel) (by decide +kernel) (by decide +kernel) (by decide +kernel)) m_9_15 m_9_16 m_9_17 m_0_2 m_9_18 hob rfl hd_yX4_change rfl ⟨⟨by decide, by decide⟩, (Nat.le_of_ble_eq_true rfl), (Nat.le_of_ble_eq_true rfl)⟩ (Nat.le_of_ble_eq_true rfl) rfl dL_harbour_119 kxN (fun v w_5 H locs hq hP hD hS => ?_)
          refine W.widen (k := 202) (n := 21056) (Nat.le_of_ble_eq_true rfl) (Nat.le_of_ble_eq_true rfl) ?_
          have hH : HC ε x U5 w_5 := hq.2.cv (S := U5) (by decide +kernel)
          obtain ⟨fo, hob⟩ := hH.ob
          rw [hq.1]
          dsimp only [Option.toList, List.cons_append, List.nil_append]
          rw [show nS U4 3 = 1 by decide +kernel]
          refine lv_iconst (pc := 122) (v := iv 1) hx hb dL_harbour_122 rfl ?_
          refine r_icmp_ne (pc := 123) (a := 1) (b := 1) hx hb dL_harbour_123 (tgt := 404) (by decide) ⟨by omega, by omega⟩ ⟨by omega, by omega⟩ (fun c_123 => ?_) (fun c_123 => ?_)
          · exact absurd c_123 (by decide)
          · have c_123_ := c_123
            refine W.widen (k := 202) (n := 21056) (Nat.le_of_ble_eq_true rfl) (Nat.le_of_ble_eq_true rfl) ?_
            exact hnx _ _ _ _ _ _ _ _ _ hC hE hQ _ _ _ _ hH hP hD hS (lv_sub hl [0] rfl)
set_option maxRecDepth 100000 in
set_option maxHeartbeats 8000000 in
theorem sU_2 (l : Launch) (ε : EV) (hst : l.stackTraces = false) {x : Nat}  (hnx : SEG l ε yL_harbour cL_harbour 1 rm_A_harbour (fun v z => v = some (.int (iv 1))) 180 274 21528 [(0, .ref x)] (fun z => HC ε x U5 z)) : SEG l ε yL_harbour cL_harbour 1 rm_A_harbour (fun v z => v = some (.int (iv 1))) 126 202 21056 [(0, .ref x)] (fun z => HC ε x U5 z) := by
  intro p9 e9 s9 m9 a9 bl9 me9 c9 Q9 hC hE hQ H locs ls w9 hH hP hD hS hl
  have hx := hC.1
  have hb := hC.2.1
  have hK := hE.K
  obtain ⟨fo, hob⟩ := hH.ob
  refine lv_aload_n (pc := 126) hx hb dL_harbour_126 rfl (lv_at hl 0 rfl) ?_
  refine lv_iconst (pc := 127) (v := iv 0) hx hb dL_harbour_127 rfl ?_
  refine lv_iconst (pc := 128) (v := iv 0) hx hb dL_harbour_128 rfl ?_
  refine lv_bipush (pc := 129) (v := iv 10) hx hb dL_harbour_129 (by decide) ?_
  refine lv_sipush (pc := 131) (v := iv 396) hx hb dL_harbour_131 (by decide) ?_
  refine c_callS (pc := 134) (y := yL_shines) (As := [.ref x, .int (iv 0), .int (iv 0), .int (iv 10), .int (iv 396)]) (rest := []) hC hE hP hD hS hl.1 (A_shines l ε hst hH 0 0 10 396 (by decide +kernel) (by decide +kernel) (by decide +kernel) (by decide +kernel) (shinesB_ok (by decide +kernel))) m_16_16 m_16_17 m_0_5 m_16_18 hd_yL_shines rfl ⟨⟨by decide, by decide⟩, (Nat.le_of_ble_eq_true rfl), (Nat.le_of_ble_eq_true rfl)⟩ (Nat.le_of_ble_eq_true rfl) rfl dL_harbour_134 kxN (fun v w_1 H locs hq hP hD hS => ?_)
  refine W.widen (k := 262) (n := 21456) (Nat.le_of_ble_eq_true rfl) (Nat.le_of_ble_eq_true rfl) ?_
  rw [hq.2] at hP hD
  rw [hq.1]
  dsimp only [Option.toList, List.cons_append, List.nil_append]
  refine r_if_eq (pc := 137) (a := 1) hx hb dL_harbour_137 (tgt := 404) (by decide) ⟨by omega, by omega⟩ (fun c_137 => ?_) (fun c_137 => ?_)
  · exact absurd c_137 (by decide)
  · have c_137_ := c_137
    refine lv_aload_n (pc := 140) hx hb dL_harbour_140 rfl (lv_at hl 0 rfl) ?_
    refine lv_iconst (pc := 141) (v := iv 1) hx hb dL_harbour_141 rfl ?_
    refine lv_iconst (pc := 142) (v := iv 0) hx hb dL_harbour_142 rfl ?_
    refine lv_iconst (pc := 143) (v := iv 0) hx hb dL_harbour_143 rfl ?_
    refine c_callS (pc := 144) (y := yL_sector) (As := [.ref x, .int (iv 1), .int (iv 0), .int (iv 0)]) (rest := []) hC hE hP hD hS hl.1 (A_sector l ε hst hH 1 0 0 (by decide +kernel) (by decide +kernel) (by decide +kernel) (by decide +kernel) (by decide +kernel)) m_16_19 m_16_20 m_0_5 m_16_21 hd_yL_sector rfl ⟨⟨by decide, by decide⟩, (Nat.le_of_ble_eq_true rfl), (Nat.le_of_ble_eq_true rfl)⟩ (Nat.le_of_ble_eq_true rfl) rfl dL_harbour_144 kxN (fun v w_2 H locs hq hP hD hS => ?_)
    refine W.widen (k := 265) (n := 21474) (Nat.le_of_ble_eq_true rfl) (Nat.le_of_ble_eq_true rfl) ?_
    rw [hq.2] at hP hD
    rw [hq.1]
    dsimp only [Option.toList, List.cons_append, List.nil_append]
    refine r_if_eq (pc := 147) (a := 1) hx hb dL_harbour_147 (tgt := 404) (by decide) ⟨by omega, by omega⟩ (fun c_147 => ?_) (fun c_147 => ?_)
    · exact absurd c_147 (by decide)
    · have c_147_ := c_147
      refine lv_aload_n (pc := 150) hx hb dL_harbour_150 rfl (lv_at hl 0 rfl) ?_
      refine lv_iconst (pc := 151) (v := iv 2) hx hb dL_harbour_151 rfl ?_
      refine lv_iconst (pc := 152) (v := iv 1) hx hb dL_harbour_152 rfl ?_
      refine lv_iconst (pc := 153) (v := iv 0) hx hb dL_harbour_153 rfl ?_
      refine c_callS (pc := 154) (y := yL_sector) (As := [.ref x, .int (iv 2), .int (iv 1), .int (iv 0)]) (rest := []) hC hE hP hD hS hl.1 (A_sector l ε hst hH 2 1 0 (by decide +kernel) (by decide +kernel) (by decide +kernel) (by decide +kernel) (by decide +kernel)) m_16_19 m_16_20 m_0_5 m_16_21 hd_yL_sector rfl ⟨⟨by decide, by decide⟩, (Nat.le_of_ble_eq_true rfl), (Nat.le_of_ble_eq_true rfl)⟩ (Nat.le_of_ble_eq_true rfl) rfl dL_harbour_154 kxN (fun v w_3 H locs hq hP hD hS => ?_)
      refine W.widen (k := 268) (n := 21492) (Nat.le_of_ble_eq_true rfl) (Nat.le_of_ble_eq_true rfl) ?_
      rw [hq.2] at hP hD
      rw [hq.1]
      dsimp only [Option.toList, List.cons_append, List.nil_append]
      refine r_if_eq (pc := 157) (a := 1) hx hb dL_harbour_157 (tgt := 404) (by decide) ⟨by omega, by omega⟩ (fun c_157 => ?_) (fun c_157 => ?_)
      · exact absurd c_157 (by decide)
      · have c_157_ := c_157
        refine lv_aload_n (pc := 160) hx hb dL_harbour_160 rfl (lv_at hl 0 rfl) ?_
        refine lv_iconst (pc := 161) (v := iv 1) hx hb dL_harbour_161 rfl ?_
        refine lv_iconst (pc := 162) (v := iv 1) hx hb dL_harbour_162 rfl ?_
        refine lv_iconst (pc := 163) (v := iv 1) hx hb dL_harbour_163 rfl ?_
        refine c_callS (pc := 164) (y := yL_sector) (As := [.ref x, .int (iv 1), .int (iv 1), .int (iv 1)]) (rest := []) hC hE hP hD hS hl.1 (A_sector l ε hst hH 1 1 1 (by decide +kernel) (by decide +kernel) (by decide +kernel) (by decide +kernel) (by decide +kernel)) m_16_19 m_16_20 m_0_5 m_16_21 hd_yL_sector rfl ⟨⟨by decide, by decide⟩, (Nat.le_of_ble_eq_true rfl), (Nat.le_of_ble_eq_true rfl)⟩ (Nat.le_of_ble_eq_true rfl) rfl dL_harbour_164 kxN (fun v w_4 H locs hq hP hD hS => ?_)
        refine W.widen (k := 271) (n := 21510) (Nat.le_of_ble_eq_true rfl) (Nat.le_of_ble_eq_true rfl) ?_
        rw [hq.2] at hP hD
        rw [hq.1]
        dsimp only [Option.toList, List.cons_append, List.nil_append]
        refine r_if_eq (pc := 167) (a := 1) hx hb dL_harbour_167 (tgt := 404) (by decide) ⟨by omega, by omega⟩ (fun c_167 => ?_) (fun c_167 => ?_)
        · exact absurd c_167 (by decide)
        · have c_167_ := c_167
          refine lv_aload_n (pc := 170) hx hb dL_harbour_170 rfl (lv_at hl 0 rfl) ?_
          refine lv_iconst (pc := 171) (v := iv 1) hx hb dL_harbour_171 rfl ?_
          refine lv_iconst (pc := 172) (v := iv 2) hx hb dL_harbour_172 rfl ?_
          refine lv_iconst (pc := 173) (v := iv 1) hx hb dL_harbour_173 rfl ?_
          refine c_callS (pc := 174) (y := yL_sector) (As := [.ref x, .int (iv 1), .int (iv 2), .int (iv 1)]) (rest := []) hC hE hP hD hS hl.1 (A_sector l ε hst hH 1 2 1 (by decide +kernel) (by decide +kernel) (by decide +kernel) (by decide +kernel) (by decide +kernel)) m_16_19 m_16_20 m_0_5 m_16_21 hd_yL_sector rfl ⟨⟨by decide, by decide⟩, (Nat.le_of_ble_eq_true rfl), (Nat.le_of_ble_eq_true rfl)⟩ (Nat.le_of_ble_eq_true rfl) rfl dL_harbour_174 kxN (fun v w_5 H locs hq hP hD hS => ?_)
          refine W.widen (k := 274) (n := 21528) (Nat.le_of_ble_eq_true rfl) (Nat.le_of_ble_eq_true rfl) ?_
          rw [hq.2] at hP hD
          rw [hq.1]
          dsimp only [Option.toList, List.cons_append, List.nil_append]
          refine r_if_eq (pc := 177) (a := 1) hx hb dL_harbour_177 (tgt := 404) (by decide) ⟨by omega, by omega⟩ (fun c_177 => ?_) (fun c_177 => ?_)
          · exact absurd c_177 (by decide)
          · have c_177_ := c_177
            refine W.widen (k := 274) (n := 21528) (Nat.le_of_ble_eq_true rfl) (Nat.le_of_ble_eq_true rfl) ?_
            exact hnx _ _ _ _ _ _ _ _ _ hC hE hQ _ _ _ _ hH hP hD hS (lv_sub hl [0] rfl)
set_option maxRecDepth 100000 in
set_option maxHeartbeats 8000000 in
theorem sU_3 (l : Launch) (ε : EV) (hst : l.stackTraces = false) {x : Nat}  (hnx : SEG l ε yL_harbour cL_harbour 1 rm_A_harbour (fun v z => v = some (.int (iv 1))) 231 289 21618 [(0, .ref x)] (fun z => HC ε x U5 z)) : SEG l ε yL_harbour cL_harbour 1 rm_A_harbour (fun v z => v = some (.int (iv 1))) 180 274 21528 [(0, .ref x)] (fun z => HC ε x U5 z) := by
  intro p9 e9 s9 m9 a9 bl9 me9 c9 Q9 hC hE hQ H locs ls w9 hH hP hD hS hl
  have hx := hC.1
  have hb := hC.2.1
  have hK := hE.K
  obtain ⟨fo, hob⟩ := hH.ob
  refine lv_aload_n (pc := 180) hx hb dL_harbour_180 rfl (lv_at hl 0 rfl) ?_
  refine lv_iconst (pc := 181) (v := iv 0) hx hb dL_harbour_181 rfl ?_
  refine lv_iconst (pc := 182) (v := iv 1) hx hb dL_harbour_182 rfl ?_
  refine lv_iconst (pc := 183) (v := iv 2) hx hb dL_harbour_183 rfl ?_
  refine c_callS (pc := 184) (y := yL_sector) (As := [.ref x, .int (iv 0), .int (iv 1), .int (iv 2)]) (rest := []) hC hE hP hD hS hl.1 (A_sector l ε hst hH 0 1 2 (by decide +kernel) (by decide +kernel) (by decide +kernel) (by decide +kernel) (by decide +kernel)) m_16_19 m_16_20 m_0_5 m_16_21 hd_yL_sector rfl ⟨⟨by decide, by decide⟩, (Nat.le_of_ble_eq_true rfl), (Nat.le_of_ble_eq_true rfl)⟩ (Nat.le_of_ble_eq_true rfl) rfl dL_harbour_184 kxN (fun v w_1 H locs hq hP hD hS => ?_)
  refine W.widen (k := 277) (n := 21546) (Nat.le_of_ble_eq_true rfl) (Nat.le_of_ble_eq_true rfl) ?_
  rw [hq.2] at hP hD
  rw [hq.1]
  dsimp only [Option.toList, List.cons_append, List.nil_append]
  refine r_if_eq (pc := 187) (a := 1) hx hb dL_harbour_187 (tgt := 404) (by decide) ⟨by omega, by omega⟩ (fun c_187 => ?_) (fun c_187 => ?_)
  · exact absurd c_187 (by decide)
  · have c_187_ := c_187
    refine lv_aload_n (pc := 190) hx hb dL_harbour_190 rfl (lv_at hl 0 rfl) ?_
    refine lv_iconst (pc := 191) (v := iv (-1)) hx hb dL_harbour_191 rfl ?_
    refine lv_iconst (pc := 192) (v := iv 2) hx hb dL_harbour_192 rfl ?_
    refine lv_iconst (pc := 193) (v := iv 2) hx hb dL_harbour_193 rfl ?_
    refine c_callS (pc := 194) (y := yL_sector) (As := [.ref x, .int (iv ((-1))), .int (iv 2), .int (iv 2)]) (rest := []) hC hE hP hD hS hl.1 (A_sector l ε hst hH ((-1)) 2 2 (by decide +kernel) (by decide +kernel) (by decide +kernel) (by decide +kernel) (by decide +kernel)) m_16_19 m_16_20 m_0_5 m_16_21 hd_yL_sector rfl ⟨⟨by decide, by decide⟩, (Nat.le_of_ble_eq_true rfl), (Nat.le_of_ble_eq_true rfl)⟩ (Nat.le_of_ble_eq_true rfl) rfl dL_harbour_194 kxN (fun v w_2 H locs hq hP hD hS => ?_)
    refine W.widen (k := 280) (n := 21564) (Nat.le_of_ble_eq_true rfl) (Nat.le_of_ble_eq_true rfl) ?_
    rw [hq.2] at hP hD
    rw [hq.1]
    dsimp only [Option.toList, List.cons_append, List.nil_append]
    refine r_if_eq (pc := 197) (a := 1) hx hb dL_harbour_197 (tgt := 404) (by decide) ⟨by omega, by omega⟩ (fun c_197 => ?_) (fun c_197 => ?_)
    · exact absurd c_197 (by decide)
    · have c_197_ := c_197
      refine lv_aload_n (pc := 200) hx hb dL_harbour_200 rfl (lv_at hl 0 rfl) ?_
      refine lv_iconst (pc := 201) (v := iv (-1)) hx hb dL_harbour_201 rfl ?_
      refine lv_iconst (pc := 202) (v := iv 1) hx hb dL_harbour_202 rfl ?_
      refine lv_iconst (pc := 203) (v := iv 3) hx hb dL_harbour_203 rfl ?_
      refine c_callS (pc := 204) (y := yL_sector) (As := [.ref x, .int (iv ((-1))), .int (iv 1), .int (iv 3)]) (rest := []) hC hE hP hD hS hl.1 (A_sector l ε hst hH ((-1)) 1 3 (by decide +kernel) (by decide +kernel) (by decide +kernel) (by decide +kernel) (by decide +kernel)) m_16_19 m_16_20 m_0_5 m_16_21 hd_yL_sector rfl ⟨⟨by decide, by decide⟩, (Nat.le_of_ble_eq_true rfl), (Nat.le_of_ble_eq_true rfl)⟩ (Nat.le_of_ble_eq_true rfl) rfl dL_harbour_204 kxN (fun v w_3 H locs hq hP hD hS => ?_)
      refine W.widen (k := 283) (n := 21582) (Nat.le_of_ble_eq_true rfl) (Nat.le_of_ble_eq_true rfl) ?_
      rw [hq.2] at hP hD
      rw [hq.1]
      dsimp only [Option.toList, List.cons_append, List.nil_append]
      refine r_if_eq (pc := 207) (a := 1) hx hb dL_harbour_207 (tgt := 404) (by decide) ⟨by omega, by omega⟩ (fun c_207 => ?_) (fun c_207 => ?_)
      · exact absurd c_207 (by decide)
      · have c_207_ := c_207
        refine lv_aload_n (pc := 210) hx hb dL_harbour_210 rfl (lv_at hl 0 rfl) ?_
        refine lv_bipush (pc := 211) (v := iv (-2)) hx hb dL_harbour_211 (by decide) ?_
        refine lv_iconst (pc := 213) (v := iv 1) hx hb dL_harbour_213 rfl ?_
        refine lv_iconst (pc := 214) (v := iv 3) hx hb dL_harbour_214 rfl ?_
        refine c_callS (pc := 215) (y := yL_sector) (As := [.ref x, .int (iv ((-2))), .int (iv 1), .int (iv 3)]) (rest := []) hC hE hP hD hS hl.1 (A_sector l ε hst hH ((-2)) 1 3 (by decide +kernel) (by decide +kernel) (by decide +kernel) (by decide +kernel) (by decide +kernel)) m_16_19 m_16_20 m_0_5 m_16_21 hd_yL_sector rfl ⟨⟨by decide, by decide⟩, (Nat.le_of_ble_eq_true rfl), (Nat.le_of_ble_eq_true rfl)⟩ (Nat.le_of_ble_eq_true rfl) rfl dL_harbour_215 kxN (fun v w_4 H locs hq hP hD hS => ?_)
        refine W.widen (k := 286) (n := 21600) (Nat.le_of_ble_eq_true rfl) (Nat.le_of_ble_eq_true rfl) ?_
        rw [hq.2] at hP hD
        rw [hq.1]
        dsimp only [Option.toList, List.cons_append, List.nil_append]
        refine r_if_eq (pc := 218) (a := 1) hx hb dL_harbour_218 (tgt := 404) (by decide) ⟨by omega, by omega⟩ (fun c_218 => ?_) (fun c_218 => ?_)
        · exact absurd c_218 (by decide)
        · have c_218_ := c_218
          refine lv_aload_n (pc := 221) hx hb dL_harbour_221 rfl (lv_at hl 0 rfl) ?_
          refine lv_iconst (pc := 222) (v := iv (-1)) hx hb dL_harbour_222 rfl ?_
          refine lv_iconst (pc := 223) (v := iv 0) hx hb dL_harbour_223 rfl ?_
          refine lv_iconst (pc := 224) (v := iv 4) hx hb dL_harbour_224 rfl ?_
          refine c_callS (pc := 225) (y := yL_sector) (As := [.ref x, .int (iv ((-1))), .int (iv 0), .int (iv 4)]) (rest := []) hC hE hP hD hS hl.1 (A_sector l ε hst hH ((-1)) 0 4 (by decide +kernel) (by decide +kernel) (by decide +kernel) (by decide +kernel) (by decide +kernel)) m_16_19 m_16_20 m_0_5 m_16_21 hd_yL_sector rfl ⟨⟨by decide, by decide⟩, (Nat.le_of_ble_eq_true rfl), (Nat.le_of_ble_eq_true rfl)⟩ (Nat.le_of_ble_eq_true rfl) rfl dL_harbour_225 kxN (fun v w_5 H locs hq hP hD hS => ?_)
          refine W.widen (k := 289) (n := 21618) (Nat.le_of_ble_eq_true rfl) (Nat.le_of_ble_eq_true rfl) ?_
          rw [hq.2] at hP hD
          rw [hq.1]
          dsimp only [Option.toList, List.cons_append, List.nil_append]
          refine r_if_eq (pc := 228) (a := 1) hx hb dL_harbour_228 (tgt := 404) (by decide) ⟨by omega, by omega⟩ (fun c_228 => ?_) (fun c_228 => ?_)
          · exact absurd c_228 (by decide)
          · have c_228_ := c_228
            refine W.widen (k := 289) (n := 21618) (Nat.le_of_ble_eq_true rfl) (Nat.le_of_ble_eq_true rfl) ?_
            exact hnx _ _ _ _ _ _ _ _ _ hC hE hQ _ _ _ _ hH hP hD hS (lv_sub hl [0] rfl)
set_option maxRecDepth 100000 in
set_option maxHeartbeats 8000000 in
theorem sU_4 (l : Launch) (ε : EV) (hst : l.stackTraces = false) {x : Nat}  (hnx : SEG l ε yL_harbour cL_harbour 1 rm_A_harbour (fun v z => v = some (.int (iv 1))) 286 304 21708 [(0, .ref x)] (fun z => HC ε x U5 z)) : SEG l ε yL_harbour cL_harbour 1 rm_A_harbour (fun v z => v = some (.int (iv 1))) 231 289 21618 [(0, .ref x)] (fun z => HC ε x U5 z) := by
  intro p9 e9 s9 m9 a9 bl9 me9 c9 Q9 hC hE hQ H locs ls w9 hH hP hD hS hl
  have hx := hC.1
  have hb := hC.2.1
  have hK := hE.K
  obtain ⟨fo, hob⟩ := hH.ob
  refine lv_aload_n (pc := 231) hx hb dL_harbour_231 rfl (lv_at hl 0 rfl) ?_
  refine lv_bipush (pc := 232) (v := iv (-2)) hx hb dL_harbour_232 (by decide) ?_
  refine lv_iconst (pc := 234) (v := iv (-1)) hx hb dL_harbour_234 rfl ?_
  refine lv_iconst (pc := 235) (v := iv 4) hx hb dL_harbour_235 rfl ?_
  refine c_callS (pc := 236) (y := yL_sector) (As := [.ref x, .int (iv ((-2))), .int (iv ((-1))), .int (iv 4)]) (rest := []) hC hE hP hD hS hl.1 (A_sector l ε hst hH ((-2)) ((-1)) 4 (by decide +kernel) (by decide +kernel) (by decide +kernel) (by decide +kernel) (by decide +kernel)) m_16_19 m_16_20 m_0_5 m_16_21 hd_yL_sector rfl ⟨⟨by decide, by decide⟩, (Nat.le_of_ble_eq_true rfl), (Nat.le_of_ble_eq_true rfl)⟩ (Nat.le_of_ble_eq_true rfl) rfl dL_harbour_236 kxN (fun v w_1 H locs hq hP hD hS => ?_)
  refine W.widen (k := 292) (n := 21636) (Nat.le_of_ble_eq_true rfl) (Nat.le_of_ble_eq_true rfl) ?_
  rw [hq.2] at hP hD
  rw [hq.1]
  dsimp only [Option.toList, List.cons_append, List.nil_append]
  refine r_if_eq (pc := 239) (a := 1) hx hb dL_harbour_239 (tgt := 404) (by decide) ⟨by omega, by omega⟩ (fun c_239 => ?_) (fun c_239 => ?_)
  · exact absurd c_239 (by decide)
  · have c_239_ := c_239
    refine lv_aload_n (pc := 242) hx hb dL_harbour_242 rfl (lv_at hl 0 rfl) ?_
    refine lv_iconst (pc := 243) (v := iv (-1)) hx hb dL_harbour_243 rfl ?_
    refine lv_iconst (pc := 244) (v := iv (-1)) hx hb dL_harbour_244 rfl ?_
    refine lv_iconst (pc := 245) (v := iv 5) hx hb dL_harbour_245 rfl ?_
    refine c_callS (pc := 246) (y := yL_sector) (As := [.ref x, .int (iv ((-1))), .int (iv ((-1))), .int (iv 5)]) (rest := []) hC hE hP hD hS hl.1 (A_sector l ε hst hH ((-1)) ((-1)) 5 (by decide +kernel) (by decide +kernel) (by decide +kernel) (by decide +kernel) (by decide +kernel)) m_16_19 m_16_20 m_0_5 m_16_21 hd_yL_sector rfl ⟨⟨by decide, by decide⟩, (Nat.le_of_ble_eq_true rfl), (Nat.le_of_ble_eq_true rfl)⟩ (Nat.le_of_ble_eq_true rfl) rfl dL_harbour_246 kxN (fun v w_2 H locs hq hP hD hS => ?_)
    refine W.widen (k := 295) (n := 21654) (Nat.le_of_ble_eq_true rfl) (Nat.le_of_ble_eq_true rfl) ?_
    rw [hq.2] at hP hD
    rw [hq.1]
    dsimp only [Option.toList, List.cons_append, List.nil_append]
    refine r_if_eq (pc := 249) (a := 1) hx hb dL_harbour_249 (tgt := 404) (by decide) ⟨by omega, by omega⟩ (fun c_249 => ?_) (fun c_249 => ?_)
    · exact absurd c_249 (by decide)
    · have c_249_ := c_249
      refine lv_aload_n (pc := 252) hx hb dL_harbour_252 rfl (lv_at hl 0 rfl) ?_
      refine lv_iconst (pc := 253) (v := iv (-1)) hx hb dL_harbour_253 rfl ?_
      refine lv_bipush (pc := 254) (v := iv (-2)) hx hb dL_harbour_254 (by decide) ?_
      refine lv_iconst (pc := 256) (v := iv 5) hx hb dL_harbour_256 rfl ?_
      refine c_callS (pc := 257) (y := yL_sector) (As := [.ref x, .int (iv ((-1))), .int (iv ((-2))), .int (iv 5)]) (rest := []) hC hE hP hD hS hl.1 (A_sector l ε hst hH ((-1)) ((-2)) 5 (by decide +kernel) (by decide +kernel) (by decide +kernel) (by decide +kernel) (by decide +kernel)) m_16_19 m_16_20 m_0_5 m_16_21 hd_yL_sector rfl ⟨⟨by decide, by decide⟩, (Nat.le_of_ble_eq_true rfl), (Nat.le_of_ble_eq_true rfl)⟩ (Nat.le_of_ble_eq_true rfl) rfl dL_harbour_257 kxN (fun v w_3 H locs hq hP hD hS => ?_)
      refine W.widen (k := 298) (n := 21672) (Nat.le_of_ble_eq_true rfl) (Nat.le_of_ble_eq_true rfl) ?_
      rw [hq.2] at hP hD
      rw [hq.1]
      dsimp only [Option.toList, List.cons_append, List.nil_append]
      refine r_if_eq (pc := 260) (a := 1) hx hb dL_harbour_260 (tgt := 404) (by decide) ⟨by omega, by omega⟩ (fun c_260 => ?_) (fun c_260 => ?_)
      · exact absurd c_260 (by decide)
      · have c_260_ := c_260
        refine lv_aload_n (pc := 263) hx hb dL_harbour_263 rfl (lv_at hl 0 rfl) ?_
        refine lv_iconst (pc := 264) (v := iv 0) hx hb dL_harbour_264 rfl ?_
        refine lv_iconst (pc := 265) (v := iv (-1)) hx hb dL_harbour_265 rfl ?_
        refine lv_bipush (pc := 266) (v := iv 6) hx hb dL_harbour_266 (by decide) ?_
        refine c_callS (pc := 268) (y := yL_sector) (As := [.ref x, .int (iv 0), .int (iv ((-1))), .int (iv 6)]) (rest := []) hC hE hP hD hS hl.1 (A_sector l ε hst hH 0 ((-1)) 6 (by decide +kernel) (by decide +kernel) (by decide +kernel) (by decide +kernel) (by decide +kernel)) m_16_19 m_16_20 m_0_5 m_16_21 hd_yL_sector rfl ⟨⟨by decide, by decide⟩, (Nat.le_of_ble_eq_true rfl), (Nat.le_of_ble_eq_true rfl)⟩ (Nat.le_of_ble_eq_true rfl) rfl dL_harbour_268 kxN (fun v w_4 H locs hq hP hD hS => ?_)
        refine W.widen (k := 301) (n := 21690) (Nat.le_of_ble_eq_true rfl) (Nat.le_of_ble_eq_true rfl) ?_
        rw [hq.2] at hP hD
        rw [hq.1]
        dsimp only [Option.toList, List.cons_append, List.nil_append]
        refine r_if_eq (pc := 271) (a := 1) hx hb dL_harbour_271 (tgt := 404) (by decide) ⟨by omega, by omega⟩ (fun c_271 => ?_) (fun c_271 => ?_)
        · exact absurd c_271 (by decide)
        · have c_271_ := c_271
          refine lv_aload_n (pc := 274) hx hb dL_harbour_274 rfl (lv_at hl 0 rfl) ?_
          refine lv_iconst (pc := 275) (v := iv 1) hx hb dL_harbour_275 rfl ?_
          refine lv_bipush (pc := 276) (v := iv (-2)) hx hb dL_harbour_276 (by decide) ?_
          refine lv_bipush (pc := 278) (v := iv 6) hx hb dL_harbour_278 (by decide) ?_
          refine c_callS (pc := 280) (y := yL_sector) (As := [.ref x, .int (iv 1), .int (iv ((-2))), .int (iv 6)]) (rest := []) hC hE hP hD hS hl.1 (A_sector l ε hst hH 1 ((-2)) 6 (by decide +kernel) (by decide +kernel) (by decide +kernel) (by decide +kernel) (by decide +kernel)) m_16_19 m_16_20 m_0_5 m_16_21 hd_yL_sector rfl ⟨⟨by decide, by decide⟩, (Nat.le_of_ble_eq_true rfl), (Nat.le_of_ble_eq_true rfl)⟩ (Nat.le_of_ble_eq_true rfl) rfl dL_harbour_280 kxN (fun v w_5 H locs hq hP hD hS => ?_)
          refine W.widen (k := 304) (n := 21708) (Nat.le_of_ble_eq_true rfl) (Nat.le_of_ble_eq_true rfl) ?_
          rw [hq.2] at hP hD
          rw [hq.1]
          dsimp only [Option.toList, List.cons_append, List.nil_append]
          refine r_if_eq (pc := 283) (a := 1) hx hb dL_harbour_283 (tgt := 404) (by decide) ⟨by omega, by omega⟩ (fun c_283 => ?_) (fun c_283 => ?_)
          · exact absurd c_283 (by decide)
          · have c_283_ := c_283
            refine W.widen (k := 304) (n := 21708) (Nat.le_of_ble_eq_true rfl) (Nat.le_of_ble_eq_true rfl) ?_
            exact hnx _ _ _ _ _ _ _ _ _ hC hE hQ _ _ _ _ hH hP hD hS (lv_sub hl [0] rfl)
set_option maxRecDepth 100000 in
set_option maxHeartbeats 8000000 in
theorem sU_5 (l : Launch) (ε : EV) (hst : l.stackTraces = false) {x : Nat}  (hnx : SEG l ε yL_harbour cL_harbour 1 rm_A_harbour (fun v z => v = some (.int (iv 1))) 342 319 21798 [(0, .ref x)] (fun z => HC ε x U5 z)) : SEG l ε yL_harbour cL_harbour 1 rm_A_harbour (fun v z => v = some (.int (iv 1))) 286 304 21708 [(0, .ref x)] (fun z => HC ε x U5 z) := by
  intro p9 e9 s9 m9 a9 bl9 me9 c9 Q9 hC hE hQ H locs ls w9 hH hP hD hS hl
  have hx := hC.1
  have hb := hC.2.1
  have hK := hE.K
  obtain ⟨fo, hob⟩ := hH.ob
  refine lv_aload_n (pc := 286) hx hb dL_harbour_286 rfl (lv_at hl 0 rfl) ?_
  refine lv_iconst (pc := 287) (v := iv 1) hx hb dL_harbour_287 rfl ?_
  refine lv_iconst (pc := 288) (v := iv (-1)) hx hb dL_harbour_288 rfl ?_
  refine lv_bipush (pc := 289) (v := iv 7) hx hb dL_harbour_289 (by decide) ?_
  refine c_callS (pc := 291) (y := yL_sector) (As := [.ref x, .int (iv 1), .int (iv ((-1))), .int (iv 7)]) (rest := []) hC hE hP hD hS hl.1 (A_sector l ε hst hH 1 ((-1)) 7 (by decide +kernel) (by decide +kernel) (by decide +kernel) (by decide +kernel) (by decide +kernel)) m_16_19 m_16_20 m_0_5 m_16_21 hd_yL_sector rfl ⟨⟨by decide, by decide⟩, (Nat.le_of_ble_eq_true rfl), (Nat.le_of_ble_eq_true rfl)⟩ (Nat.le_of_ble_eq_true rfl) rfl dL_harbour_291 kxN (fun v w_1 H locs hq hP hD hS => ?_)
  refine W.widen (k := 307) (n := 21726) (Nat.le_of_ble_eq_true rfl) (Nat.le_of_ble_eq_true rfl) ?_
  rw [hq.2] at hP hD
  rw [hq.1]
  dsimp only [Option.toList, List.cons_append, List.nil_append]
  refine r_if_eq (pc := 294) (a := 1) hx hb dL_harbour_294 (tgt := 404) (by decide) ⟨by omega, by omega⟩ (fun c_294 => ?_) (fun c_294 => ?_)
  · exact absurd c_294 (by decide)
  · have c_294_ := c_294
    refine lv_aload_n (pc := 297) hx hb dL_harbour_297 rfl (lv_at hl 0 rfl) ?_
    refine lv_iconst (pc := 298) (v := iv 2) hx hb dL_harbour_298 rfl ?_
    refine lv_iconst (pc := 299) (v := iv (-1)) hx hb dL_harbour_299 rfl ?_
    refine lv_bipush (pc := 300) (v := iv 7) hx hb dL_harbour_300 (by decide) ?_
    refine c_callS (pc := 302) (y := yL_sector) (As := [.ref x, .int (iv 2), .int (iv ((-1))), .int (iv 7)]) (rest := []) hC hE hP hD hS hl.1 (A_sector l ε hst hH 2 ((-1)) 7 (by decide +kernel) (by decide +kernel) (by decide +kernel) (by decide +kernel) (by decide +kernel)) m_16_19 m_16_20 m_0_5 m_16_21 hd_yL_sector rfl ⟨⟨by decide, by decide⟩, (Nat.le_of_ble_eq_true rfl), (Nat.le_of_ble_eq_true rfl)⟩ (Nat.le_of_ble_eq_true rfl) rfl dL_harbour_302 kxN (fun v w_2 H locs hq hP hD hS => ?_)
    refine W.widen (k := 310) (n := 21744) (Nat.le_of_ble_eq_true rfl) (Nat.le_of_ble_eq_true rfl) ?_
    rw [hq.2] at hP hD
    rw [hq.1]
    dsimp only [Option.toList, List.cons_append, List.nil_append]
    refine r_if_eq (pc := 305) (a := 1) hx hb dL_harbour_305 (tgt := 404) (by decide) ⟨by omega, by omega⟩ (fun c_305 => ?_) (fun c_305 => ?_)
    · exact absurd c_305 (by decide)
    · have c_305_ := c_305
      refine lv_aload_n (pc := 308) hx hb dL_harbour_308 rfl (lv_at hl 0 rfl) ?_
      refine lv_iconst (pc := 309) (v := iv 0) hx hb dL_harbour_309 rfl ?_
      refine lv_iconst (pc := 310) (v := iv 0) hx hb dL_harbour_310 rfl ?_
      refine lv_iconst (pc := 311) (v := iv (-1)) hx hb dL_harbour_311 rfl ?_
      refine c_callS (pc := 312) (y := yL_sector) (As := [.ref x, .int (iv 0), .int (iv 0), .int (iv ((-1)))]) (rest := []) hC hE hP hD hS hl.1 (A_sector l ε hst hH 0 0 ((-1)) (by decide +kernel) (by decide +kernel) (by decide +kernel) (by decide +kernel) (by decide +kernel)) m_16_19 m_16_20 m_0_5 m_16_21 hd_yL_sector rfl ⟨⟨by decide, by decide⟩, (Nat.le_of_ble_eq_true rfl), (Nat.le_of_ble_eq_true rfl)⟩ (Nat.le_of_ble_eq_true rfl) rfl dL_harbour_312 kxN (fun v w_3 H locs hq hP hD hS => ?_)
      refine W.widen (k := 313) (n := 21762) (Nat.le_of_ble_eq_true rfl) (Nat.le_of_ble_eq_true rfl) ?_
      rw [hq.2] at hP hD
      rw [hq.1]
      dsimp only [Option.toList, List.cons_append, List.nil_append]
      refine r_if_eq (pc := 315) (a := 1) hx hb dL_harbour_315 (tgt := 404) (by decide) ⟨by omega, by omega⟩ (fun c_315 => ?_) (fun c_315 => ?_)
      · exact absurd c_315 (by decide)
      · have c_315_ := c_315
        refine lv_aload_n (pc := 318) hx hb dL_harbour_318 rfl (lv_at hl 0 rfl) ?_
        refine lv_iconst (pc := 319) (v := iv 0) hx hb dL_harbour_319 rfl ?_
        refine lv_bipush (pc := 320) (v := iv 15) hx hb dL_harbour_320 (by decide) ?_
        refine lv_bipush (pc := 322) (v := iv 10) hx hb dL_harbour_322 (by decide) ?_
        refine c_callV (pc := 324) (y := yX4_isSeen) (As := [.int (iv 0), .int (iv 15), .int (iv 10)]) (rest := []) hC hE hP hD hS hl.1 (K_isSeen l ε hst hH 0 15 10 (by decide +kernel) (by decide +kernel)) m_11_24 m_12_0 m_12_1 m_0_2 m_12_2 hob rfl hd_yX4_isSeen rfl ⟨⟨by decide, by decide⟩, (Nat.le_of_ble_eq_true rfl), (Nat.le_of_ble_eq_true rfl)⟩ (Nat.le_of_ble_eq_true rfl) rfl dL_harbour_324 kxN (fun v w_4 H locs hq hP hD hS => ?_)
        refine W.widen (k := 316) (n := 21780) (Nat.le_of_ble_eq_true rfl) (Nat.le_of_ble_eq_true rfl) ?_
        rw [hq.2] at hP hD
        rw [hq.1]
        dsimp only [Option.toList, List.cons_append, List.nil_append]
        rw [show bz (seeB (gS U5) 0 15 10) = 1 by decide +kernel]
        refine r_if_eq (pc := 327) (a := 1) hx hb dL_harbour_327 (tgt := 404) (by decide) ⟨by omega, by omega⟩ (fun c_327 => ?_) (fun c_327 => ?_)
        · exact absurd c_327 (by decide)
        · have c_327_ := c_327
          refine lv_aload_n (pc := 330) hx hb dL_harbour_330 rfl (lv_at hl 0 rfl) ?_
          refine lv_iconst (pc := 331) (v := iv 0) hx hb dL_harbour_331 rfl ?_
          refine lv_bipush (pc := 332) (v := iv 16) hx hb dL_harbour_332 (by decide) ?_
          refine lv_bipush (pc := 334) (v := iv 10) hx hb dL_harbour_334 (by decide) ?_
          refine c_callV (pc := 336) (y := yX4_isSeen) (As := [.int (iv 0), .int (iv 16), .int (iv 10)]) (rest := []) hC hE hP hD hS hl.1 (K_isSeen l ε hst hH 0 16 10 (by decide +kernel) (by decide +kernel)) m_11_24 m_12_0 m_12_1 m_0_2 m_12_2 hob rfl hd_yX4_isSeen rfl ⟨⟨by decide, by decide⟩, (Nat.le_of_ble_eq_true rfl), (Nat.le_of_ble_eq_true rfl)⟩ (Nat.le_of_ble_eq_true rfl) rfl dL_harbour_336 kxN (fun v w_5 H locs hq hP hD hS => ?_)
          refine W.widen (k := 319) (n := 21798) (Nat.le_of_ble_eq_true rfl) (Nat.le_of_ble_eq_true rfl) ?_
          rw [hq.2] at hP hD
          rw [hq.1]
          dsimp only [Option.toList, List.cons_append, List.nil_append]
          rw [show bz (seeB (gS U5) 0 16 10) = 0 by decide +kernel]
          refine r_if_ne (pc := 339) (a := 0) hx hb dL_harbour_339 (tgt := 404) (by decide) ⟨by omega, by omega⟩ (fun c_339 => ?_) (fun c_339 => ?_)
          · exact absurd c_339 (by decide)
          · have c_339_ := c_339
            refine W.widen (k := 319) (n := 21798) (Nat.le_of_ble_eq_true rfl) (Nat.le_of_ble_eq_true rfl) ?_
            exact hnx _ _ _ _ _ _ _ _ _ hC hE hQ _ _ _ _ hH hP hD hS (lv_sub hl [0] rfl)
set_option maxRecDepth 100000 in
set_option maxHeartbeats 8000000 in
theorem sU_6 (l : Launch) (ε : EV) (hst : l.stackTraces = false) {x : Nat}  (hnx : SEG l ε yL_harbour cL_harbour 1 rm_A_harbour (fun v z => v = some (.int (iv 1))) 394 330 21864 [(0, .ref x)] (fun z => HC ε x U5 z)) : SEG l ε yL_harbour cL_harbour 1 rm_A_harbour (fun v z => v = some (.int (iv 1))) 342 319 21798 [(0, .ref x)] (fun z => HC ε x U5 z) := by
  intro p9 e9 s9 m9 a9 bl9 me9 c9 Q9 hC hE hQ H locs ls w9 hH hP hD hS hl
  have hx := hC.1
  have hb := hC.2.1
  have hK := hE.K
  obtain ⟨fo, hob⟩ := hH.ob
  refine lv_aload_n (pc := 342) hx hb dL_harbour_342 rfl (lv_at hl 0 rfl) ?_
  refine lv_iconst (pc := 343) (v := iv 0) hx hb dL_harbour_343 rfl ?_
  refine lv_iconst (pc := 344) (v := iv 5) hx hb dL_harbour_344 rfl ?_
  refine lv_bipush (pc := 345) (v := iv 15) hx hb dL_harbour_345 (by decide) ?_
  refine c_callV (pc := 347) (y := yX4_isSeen) (As := [.int (iv 0), .int (iv 5), .int (iv 15)]) (rest := []) hC hE hP hD hS hl.1 (K_isSeen l ε hst hH 0 5 15 (by decide +kernel) (by decide +kernel)) m_11_24 m_12_0 m_12_1 m_0_2 m_12_2 hob rfl hd_yX4_isSeen rfl ⟨⟨by decide, by decide⟩, (Nat.le_of_ble_eq_true rfl), (Nat.le_of_ble_eq_true rfl)⟩ (Nat.le_of_ble_eq_true rfl) rfl dL_harbour_347 kxN (fun v w_1 H locs hq hP hD hS => ?_)
  refine W.widen (k := 322) (n := 21816) (Nat.le_of_ble_eq_true rfl) (Nat.le_of_ble_eq_true rfl) ?_
  rw [hq.2] at hP hD
  rw [hq.1]
  dsimp only [Option.toList, List.cons_append, List.nil_append]
  rw [show bz (seeB (gS U5) 0 5 15) = 1 by decide +kernel]
  refine r_if_eq (pc := 350) (a := 1) hx hb dL_harbour_350 (tgt := 404) (by decide) ⟨by omega, by omega⟩ (fun c_350 => ?_) (fun c_350 => ?_)
  · exact absurd c_350 (by decide)
  · have c_350_ := c_350
    refine lv_aload_n (pc := 353) hx hb dL_harbour_353 rfl (lv_at hl 0 rfl) ?_
    refine lv_iconst (pc := 354) (v := iv 0) hx hb dL_harbour_354 rfl ?_
    refine lv_iconst (pc := 355) (v := iv 5) hx hb dL_harbour_355 rfl ?_
    refine lv_bipush (pc := 356) (v := iv 16) hx hb dL_harbour_356 (by decide) ?_
    refine c_callV (pc := 358) (y := yX4_isSeen) (As := [.int (iv 0), .int (iv 5), .int (iv 16)]) (rest := []) hC hE hP hD hS hl.1 (K_isSeen l ε hst hH 0 5 16 (by decide +kernel) (by decide +kernel)) m_11_24 m_12_0 m_12_1 m_0_2 m_12_2 hob rfl hd_yX4_isSeen rfl ⟨⟨by decide, by decide⟩, (Nat.le_of_ble_eq_true rfl), (Nat.le_of_ble_eq_true rfl)⟩ (Nat.le_of_ble_eq_true rfl) rfl dL_harbour_358 kxN (fun v w_2 H locs hq hP hD hS => ?_)
    refine W.widen (k := 325) (n := 21834) (Nat.le_of_ble_eq_true rfl) (Nat.le_of_ble_eq_true rfl) ?_
    rw [hq.2] at hP hD
    rw [hq.1]
    dsimp only [Option.toList, List.cons_append, List.nil_append]
    rw [show bz (seeB (gS U5) 0 5 16) = 0 by decide +kernel]
    refine r_if_ne (pc := 361) (a := 0) hx hb dL_harbour_361 (tgt := 404) (by decide) ⟨by omega, by omega⟩ (fun c_361 => ?_) (fun c_361 => ?_)
    · exact absurd c_361 (by decide)
    · have c_361_ := c_361
      refine lv_aload_n (pc := 364) hx hb dL_harbour_364 rfl (lv_at hl 0 rfl) ?_
      refine lv_iconst (pc := 365) (v := iv 0) hx hb dL_harbour_365 rfl ?_
      refine lv_bipush (pc := 366) (v := iv 10) hx hb dL_harbour_366 (by decide) ?_
      refine lv_bipush (pc := 368) (v := iv 10) hx hb dL_harbour_368 (by decide) ?_
      refine c_callV (pc := 370) (y := yX4_isSeen) (As := [.int (iv 0), .int (iv 10), .int (iv 10)]) (rest := []) hC hE hP hD hS hl.1 (K_isSeen l ε hst hH 0 10 10 (by decide +kernel) (by decide +kernel)) m_11_24 m_12_0 m_12_1 m_0_2 m_12_2 hob rfl hd_yX4_isSeen rfl ⟨⟨by decide, by decide⟩, (Nat.le_of_ble_eq_true rfl), (Nat.le_of_ble_eq_true rfl)⟩ (Nat.le_of_ble_eq_true rfl) rfl dL_harbour_370 kxN (fun v w_3 H locs hq hP hD hS => ?_)
      refine W.widen (k := 328) (n := 21852) (Nat.le_of_ble_eq_true rfl) (Nat.le_of_ble_eq_true rfl) ?_
      rw [hq.2] at hP hD
      rw [hq.1]
      dsimp only [Option.toList, List.cons_append, List.nil_append]
      rw [show bz (seeB (gS U5) 0 10 10) = 1 by decide +kernel]
      refine r_if_eq (pc := 373) (a := 1) hx hb dL_harbour_373 (tgt := 404) (by decide) ⟨by omega, by omega⟩ (fun c_373 => ?_) (fun c_373 => ?_)
      · exact absurd c_373 (by decide)
      · have c_373_ := c_373
        refine lv_aload_n (pc := 376) hx hb dL_harbour_376 rfl (lv_at hl 0 rfl) ?_
        refine lv_iconst (pc := 377) (v := iv 0) hx hb dL_harbour_377 rfl ?_
        refine lv_iconst (pc := 378) (v := iv 0) hx hb dL_harbour_378 rfl ?_
        refine c_callV (pc := 379) (y := yX4_common) (As := [.int (iv 0), .int (iv 0)]) (rest := []) hC hE hP hD hS hl.1 (K_common l ε hst hH 0 0 (by decide +kernel) (by decide +kernel)) m_12_7 m_12_8 m_12_9 m_0_2 m_12_10 hob rfl hd_yX4_common rfl ⟨⟨by decide, by decide⟩, (Nat.le_of_ble_eq_true rfl), (Nat.le_of_ble_eq_true rfl)⟩ (Nat.le_of_ble_eq_true rfl) rfl dL_harbour_379 kxN (fun v w_4 H locs hq hP hD hS => ?_)
        refine W.widen (k := 330) (n := 21864) (Nat.le_of_ble_eq_true rfl) (Nat.le_of_ble_eq_true rfl) ?_
        rw [hq.2] at hP hD
        rw [hq.1]
        dsimp only [Option.toList, List.cons_append, List.nil_append]
        rw [show shB (gS U5) 0 0 = 121 by decide +kernel]
        refine lv_bipush (pc := 382) (v := iv 121) hx hb dL_harbour_382 (by decide) ?_
        refine r_icmp_ne (pc := 384) (a := 121) (b := 121) hx hb dL_harbour_384 (tgt := 404) (by decide) ⟨by omega, by omega⟩ ⟨by omega, by omega⟩ (fun c_384 => ?_) (fun c_384 => ?_)
        · exact absurd c_384 (by decide)
        · have c_384_ := c_384
          refine lv_aload_n (pc := 387) hx hb dL_harbour_387 rfl (lv_at hl 0 rfl) ?_
          refine c_callV (pc := 388) (y := yX4_clashes) (As := []) (rest := []) hC hE hP hD hS hl.1 (K_clashes l ε hst hH  ) m_2_8 m_2_9 m_2_10 m_0_2 m_2_11 hob rfl hd_yX4_clashes rfl ⟨⟨by decide, by decide⟩, (Nat.le_of_ble_eq_true rfl), (Nat.le_of_ble_eq_true rfl)⟩ (Nat.le_of_ble_eq_true rfl) rfl dL_harbour_388 kxN (fun v w_5 H locs hq hP hD hS => ?_)
          refine W.widen (k := 330) (n := 21864) (Nat.le_of_ble_eq_true rfl) (Nat.le_of_ble_eq_true rfl) ?_
          rw [hq.2] at hP hD
          rw [hq.1]
          dsimp only [Option.toList, List.cons_append, List.nil_append]
          rw [show clcB (gS U5) (nS U5 2).toNat = 0 by decide +kernel]
          refine r_if_ne (pc := 391) (a := 0) hx hb dL_harbour_391 (tgt := 404) (by decide) ⟨by omega, by omega⟩ (fun c_391 => ?_) (fun c_391 => ?_)
          · exact absurd c_391 (by decide)
          · have c_391_ := c_391
            refine W.widen (k := 330) (n := 21864) (Nat.le_of_ble_eq_true rfl) (Nat.le_of_ble_eq_true rfl) ?_
            exact hnx _ _ _ _ _ _ _ _ _ hC hE hQ _ _ _ _ hH hP hD hS (lv_sub hl [0] rfl)
set_option maxRecDepth 100000 in
set_option maxHeartbeats 8000000 in
theorem sU_7 (l : Launch) (ε : EV) (hst : l.stackTraces = false) {x : Nat}  (hnx : SEG l ε yL_harbour cL_harbour 1 rm_A_harbour (fun v z => v = some (.int (iv 1))) 456 1196 111844 [(0, .ref x)] (fun z => HC ε x U6 z)) : SEG l ε yL_harbour cL_harbour 1 rm_A_harbour (fun v z => v = some (.int (iv 1))) 394 330 21864 [(0, .ref x)] (fun z => HC ε x U5 z) := by
  intro p9 e9 s9 m9 a9 bl9 me9 c9 Q9 hC hE hQ H locs ls w9 hH hP hD hS hl
  have hx := hC.1
  have hb := hC.2.1
  have hK := hE.K
  obtain ⟨fo, hob⟩ := hH.ob
  refine lv_aload_n (pc := 394) hx hb dL_harbour_394 rfl (lv_at hl 0 rfl) ?_
  refine lv_iconst (pc := 395) (v := iv 4) hx hb dL_harbour_395 rfl ?_
  refine lv_iconst (pc := 396) (v := iv 1) hx hb dL_harbour_396 rfl ?_
  refine lv_iconst (pc := 397) (v := iv 0) hx hb dL_harbour_397 rfl ?_
  refine c_callS (pc := 398) (y := yL_refuses) (As := [.ref x, .int (iv 4), .int (iv 1), .int (iv 0)]) (rest := []) hC hE hP hD hS hl.1 (A_refuses l ε hst hH 4 1 0 (by decide +kernel) (by decide +kernel) (by decide +kernel) (by decide +kernel)) m_1_19 m_1_20 m_0_5 m_1_21 hd_yL_refuses rfl ⟨⟨by decide, by decide⟩, (Nat.le_of_ble_eq_true rfl), (Nat.le_of_ble_eq_true rfl)⟩ (Nat.le_of_ble_eq_true rfl) rfl dL_harbour_398 kxN (fun v w_1 H locs hq hP hD hS => ?_)
  refine W.widen (k := 1174) (n := 108496) (Nat.le_of_ble_eq_true rfl) (Nat.le_of_ble_eq_true rfl) ?_
  rw [hq.2] at hP hD
  rw [hq.1]
  dsimp only [Option.toList, List.cons_append, List.nil_append]
  refine r_if_ne (pc := 401) (a := 1) hx hb dL_harbour_401 (tgt := 406) (by decide) ⟨by omega, by omega⟩ (fun c_401 => ?_) (fun c_401 => ?_)
  · have c_401_ := c_401
    refine lv_aload_n (pc := 406) hx hb dL_harbour_406 rfl (lv_at hl 0 rfl) ?_
    refine lv_iconst (pc := 407) (v := iv 0) hx hb dL_harbour_407 rfl ?_
    refine lv_iconst (pc := 408) (v := iv 0) hx hb dL_harbour_408 rfl ?_
    refine lv_iconst (pc := 409) (v := iv 1) hx hb dL_harbour_409 rfl ?_
    refine lv_bipush (pc := 410) (v := iv 40) hx hb dL_harbour_410 (by decide) ?_
    refine lv_iconst (pc := 412) (v := iv 1) hx hb dL_harbour_412 rfl ?_
    refine c_callV (pc := 413) (y := yX4_lamp) (As := [.int (iv 0), .int (iv 0), .int (iv 1), .int (iv 40), .int (iv 1)]) (rest := []) hC hE hP hD hS hl.1 (K_lamp l ε hst hH 0 0 1 40 1 (by decide +kernel) (by decide +kernel) (by decide +kernel) (by decide +kernel) (by decide +kernel) (by decide +kernel)) m_14_18 m_14_19 m_14_20 m_0_2 m_14_21 hob rfl hd_yX4_lamp rfl ⟨⟨by decide, by decide⟩, (Nat.le_of_ble_eq_true rfl), (Nat.le_of_ble_eq_true rfl)⟩ (Nat.le_of_ble_eq_true rfl) rfl dL_harbour_413 kxN (fun v w_2 H locs hq hP hD hS => ?_)
    refine W.widen (k := 1188) (n := 111796) (Nat.le_of_ble_eq_true rfl) (Nat.le_of_ble_eq_true rfl) ?_
    have hH : HC ε x U6 w_2 := hq.2.cv (S := U6) (by decide +kernel)
    obtain ⟨fo, hob⟩ := hH.ob
    rw [hq.1]
    dsimp only [Option.toList, List.cons_append, List.nil_append]
    rw [show nS U5 2 = 1 by decide +kernel]
    refine lv_iconst (pc := 416) (v := iv 1) hx hb dL_harbour_416 rfl ?_
    refine r_icmp_ne (pc := 417) (a := 1) (b := 1) hx hb dL_harbour_417 (tgt := 806) (by decide) ⟨by omega, by omega⟩ ⟨by omega, by omega⟩ (fun c_417 => ?_) (fun c_417 => ?_)
    · exact absurd c_417 (by decide)
    · have c_417_ := c_417
      refine lv_aload_n (pc := 420) hx hb dL_harbour_420 rfl (lv_at hl 0 rfl) ?_
      refine lv_iconst (pc := 421) (v := iv 1) hx hb dL_harbour_421 rfl ?_
      refine lv_iconst (pc := 422) (v := iv 1) hx hb dL_harbour_422 rfl ?_
      refine c_callV (pc := 423) (y := yX4_common) (As := [.int (iv 1), .int (iv 1)]) (rest := []) hC hE hP hD hS hl.1 (K_common l ε hst hH 1 1 (by decide +kernel) (by decide +kernel)) m_12_7 m_12_8 m_12_9 m_0_2 m_12_10 hob rfl hd_yX4_common rfl ⟨⟨by decide, by decide⟩, (Nat.le_of_ble_eq_true rfl), (Nat.le_of_ble_eq_true rfl)⟩ (Nat.le_of_ble_eq_true rfl) rfl dL_harbour_423 kxN (fun v w_3 H locs hq hP hD hS => ?_)
      refine W.widen (k := 1190) (n := 111808) (Nat.le_of_ble_eq_true rfl) (Nat.le_of_ble_eq_true rfl) ?_
      rw [hq.2] at hP hD
      rw [hq.1]
      dsimp only [Option.toList, List.cons_append, List.nil_append]
      rw [show shB (gS U6) 1 1 = 497 by decide +kernel]
      refine lv_sipush (pc := 426) (v := iv 497) hx hb dL_harbour_426 (by decide) ?_
      refine r_icmp_ne (pc := 429) (a := 497) (b := 497) hx hb dL_harbour_429 (tgt := 806) (by decide) ⟨by omega, by omega⟩ ⟨by omega, by omega⟩ (fun c_429 => ?_) (fun c_429 => ?_)
      · exact absurd c_429 (by decide)
      · have c_429_ := c_429
        refine lv_aload_n (pc := 432) hx hb dL_harbour_432 rfl (lv_at hl 0 rfl) ?_
        refine lv_iconst (pc := 433) (v := iv 1) hx hb dL_harbour_433 rfl ?_
        refine lv_bipush (pc := 434) (v := iv 31) hx hb dL_harbour_434 (by decide) ?_
        refine lv_bipush (pc := 436) (v := iv 30) hx hb dL_harbour_436 (by decide) ?_
        refine c_callV (pc := 438) (y := yX4_isSeen) (As := [.int (iv 1), .int (iv 31), .int (iv 30)]) (rest := []) hC hE hP hD hS hl.1 (K_isSeen l ε hst hH 1 31 30 (by decide +kernel) (by decide +kernel)) m_11_24 m_12_0 m_12_1 m_0_2 m_12_2 hob rfl hd_yX4_isSeen rfl ⟨⟨by decide, by decide⟩, (Nat.le_of_ble_eq_true rfl), (Nat.le_of_ble_eq_true rfl)⟩ (Nat.le_of_ble_eq_true rfl) rfl dL_harbour_438 kxN (fun v w_4 H locs hq hP hD hS => ?_)
        refine W.widen (k := 1193) (n := 111826) (Nat.le_of_ble_eq_true rfl) (Nat.le_of_ble_eq_true rfl) ?_
        rw [hq.2] at hP hD
        rw [hq.1]
        dsimp only [Option.toList, List.cons_append, List.nil_append]
        rw [show bz (seeB (gS U6) 1 31 30) = 1 by decide +kernel]
        refine r_if_eq (pc := 441) (a := 1) hx hb dL_harbour_441 (tgt := 806) (by decide) ⟨by omega, by omega⟩ (fun c_441 => ?_) (fun c_441 => ?_)
        · exact absurd c_441 (by decide)
        · have c_441_ := c_441
          refine lv_aload_n (pc := 444) hx hb dL_harbour_444 rfl (lv_at hl 0 rfl) ?_
          refine lv_iconst (pc := 445) (v := iv 1) hx hb dL_harbour_445 rfl ?_
          refine lv_bipush (pc := 446) (v := iv 31) hx hb dL_harbour_446 (by decide) ?_
          refine lv_bipush (pc := 448) (v := iv 31) hx hb dL_harbour_448 (by decide) ?_
          refine c_callV (pc := 450) (y := yX4_isSeen) (As := [.int (iv 1), .int (iv 31), .int (iv 31)]) (rest := []) hC hE hP hD hS hl.1 (K_isSeen l ε hst hH 1 31 31 (by decide +kernel) (by decide +kernel)) m_11_24 m_12_0 m_12_1 m_0_2 m_12_2 hob rfl hd_yX4_isSeen rfl ⟨⟨by decide, by decide⟩, (Nat.le_of_ble_eq_true rfl), (Nat.le_of_ble_eq_true rfl)⟩ (Nat.le_of_ble_eq_true rfl) rfl dL_harbour_450 kxN (fun v w_5 H locs hq hP hD hS => ?_)
          refine W.widen (k := 1196) (n := 111844) (Nat.le_of_ble_eq_true rfl) (Nat.le_of_ble_eq_true rfl) ?_
          rw [hq.2] at hP hD
          rw [hq.1]
          dsimp only [Option.toList, List.cons_append, List.nil_append]
          rw [show bz (seeB (gS U6) 1 31 31) = 0 by decide +kernel]
          refine r_if_ne (pc := 453) (a := 0) hx hb dL_harbour_453 (tgt := 806) (by decide) ⟨by omega, by omega⟩ (fun c_453 => ?_) (fun c_453 => ?_)
          · exact absurd c_453 (by decide)
          · have c_453_ := c_453
            refine W.widen (k := 1196) (n := 111844) (Nat.le_of_ble_eq_true rfl) (Nat.le_of_ble_eq_true rfl) ?_
            exact hnx _ _ _ _ _ _ _ _ _ hC hE hQ _ _ _ _ hH hP hD hS (lv_sub hl [0] rfl)
  · exact absurd c_401 (by decide)
set_option maxRecDepth 100000 in
set_option maxHeartbeats 8000000 in
theorem sU_8 (l : Launch) (ε : EV) (hst : l.stackTraces = false) {x : Nat}  (hnx : SEG l ε yL_harbour cL_harbour 1 rm_A_harbour (fun v z => v = some (.int (iv 1))) 506 1206 111904 [(0, .ref x)] (fun z => HC ε x U6 z)) : SEG l ε yL_harbour cL_harbour 1 rm_A_harbour (fun v z => v = some (.int (iv 1))) 456 1196 111844 [(0, .ref x)] (fun z => HC ε x U6 z) := by
  intro p9 e9 s9 m9 a9 bl9 me9 c9 Q9 hC hE hQ H locs ls w9 hH hP hD hS hl
  have hx := hC.1
  have hb := hC.2.1
  have hK := hE.K
  obtain ⟨fo, hob⟩ := hH.ob
  refine lv_aload_n (pc := 456) hx hb dL_harbour_456 rfl (lv_at hl 0 rfl) ?_
  refine lv_iconst (pc := 457) (v := iv 1) hx hb dL_harbour_457 rfl ?_
  refine lv_iconst (pc := 458) (v := iv 0) hx hb dL_harbour_458 rfl ?_
  refine lv_iconst (pc := 459) (v := iv 0) hx hb dL_harbour_459 rfl ?_
  refine c_callV (pc := 460) (y := yX4_isSeen) (As := [.int (iv 1), .int (iv 0), .int (iv 0)]) (rest := []) hC hE hP hD hS hl.1 (K_isSeen l ε hst hH 1 0 0 (by decide +kernel) (by decide +kernel)) m_11_24 m_12_0 m_12_1 m_0_2 m_12_2 hob rfl hd_yX4_isSeen rfl ⟨⟨by decide, by decide⟩, (Nat.le_of_ble_eq_true rfl), (Nat.le_of_ble_eq_true rfl)⟩ (Nat.le_of_ble_eq_true rfl) rfl dL_harbour_460 kxN (fun v w_1 H locs hq hP hD hS => ?_)
  refine W.widen (k := 1199) (n := 111862) (Nat.le_of_ble_eq_true rfl) (Nat.le_of_ble_eq_true rfl) ?_
  rw [hq.2] at hP hD
  rw [hq.1]
  dsimp only [Option.toList, List.cons_append, List.nil_append]
  rw [show bz (seeB (gS U6) 1 0 0) = 1 by decide +kernel]
  refine r_if_eq (pc := 463) (a := 1) hx hb dL_harbour_463 (tgt := 806) (by decide) ⟨by omega, by omega⟩ (fun c_463 => ?_) (fun c_463 => ?_)
  · exact absurd c_463 (by decide)
  · have c_463_ := c_463
    refine lv_aload_n (pc := 466) hx hb dL_harbour_466 rfl (lv_at hl 0 rfl) ?_
    refine lv_iconst (pc := 467) (v := iv 1) hx hb dL_harbour_467 rfl ?_
    refine lv_iconst (pc := 468) (v := iv 0) hx hb dL_harbour_468 rfl ?_
    refine lv_iconst (pc := 469) (v := iv 1) hx hb dL_harbour_469 rfl ?_
    refine c_callV (pc := 470) (y := yX4_isSeen) (As := [.int (iv 1), .int (iv 0), .int (iv 1)]) (rest := []) hC hE hP hD hS hl.1 (K_isSeen l ε hst hH 1 0 1 (by decide +kernel) (by decide +kernel)) m_11_24 m_12_0 m_12_1 m_0_2 m_12_2 hob rfl hd_yX4_isSeen rfl ⟨⟨by decide, by decide⟩, (Nat.le_of_ble_eq_true rfl), (Nat.le_of_ble_eq_true rfl)⟩ (Nat.le_of_ble_eq_true rfl) rfl dL_harbour_470 kxN (fun v w_2 H locs hq hP hD hS => ?_)
    refine W.widen (k := 1202) (n := 111880) (Nat.le_of_ble_eq_true rfl) (Nat.le_of_ble_eq_true rfl) ?_
    rw [hq.2] at hP hD
    rw [hq.1]
    dsimp only [Option.toList, List.cons_append, List.nil_append]
    rw [show bz (seeB (gS U6) 1 0 1) = 0 by decide +kernel]
    refine r_if_ne (pc := 473) (a := 0) hx hb dL_harbour_473 (tgt := 806) (by decide) ⟨by omega, by omega⟩ (fun c_473 => ?_) (fun c_473 => ?_)
    · exact absurd c_473 (by decide)
    · have c_473_ := c_473
      refine lv_aload_n (pc := 476) hx hb dL_harbour_476 rfl (lv_at hl 0 rfl) ?_
      refine lv_iconst (pc := 477) (v := iv 0) hx hb dL_harbour_477 rfl ?_
      refine lv_iconst (pc := 478) (v := iv 1) hx hb dL_harbour_478 rfl ?_
      refine c_callV (pc := 479) (y := yX4_common) (As := [.int (iv 0), .int (iv 1)]) (rest := []) hC hE hP hD hS hl.1 (K_common l ε hst hH 0 1 (by decide +kernel) (by decide +kernel)) m_12_7 m_12_8 m_12_9 m_0_2 m_12_10 hob rfl hd_yX4_common rfl ⟨⟨by decide, by decide⟩, (Nat.le_of_ble_eq_true rfl), (Nat.le_of_ble_eq_true rfl)⟩ (Nat.le_of_ble_eq_true rfl) rfl dL_harbour_479 kxN (fun v w_3 H locs hq hP hD hS => ?_)
      refine W.widen (k := 1204) (n := 111892) (Nat.le_of_ble_eq_true rfl) (Nat.le_of_ble_eq_true rfl) ?_
      rw [hq.2] at hP hD
      rw [hq.1]
      dsimp only [Option.toList, List.cons_append, List.nil_append]
      rw [show shB (gS U6) 0 1 = 55 by decide +kernel]
      refine lv_bipush (pc := 482) (v := iv 55) hx hb dL_harbour_482 (by decide) ?_
      refine r_icmp_ne (pc := 484) (a := 55) (b := 55) hx hb dL_harbour_484 (tgt := 806) (by decide) ⟨by omega, by omega⟩ ⟨by omega, by omega⟩ (fun c_484 => ?_) (fun c_484 => ?_)
      · exact absurd c_484 (by decide)
      · have c_484_ := c_484
        refine lv_aload_n (pc := 487) hx hb dL_harbour_487 rfl (lv_at hl 0 rfl) ?_
        refine lv_iconst (pc := 488) (v := iv 1) hx hb dL_harbour_488 rfl ?_
        refine lv_iconst (pc := 489) (v := iv 0) hx hb dL_harbour_489 rfl ?_
        refine c_callV (pc := 490) (y := yX4_common) (As := [.int (iv 1), .int (iv 0)]) (rest := []) hC hE hP hD hS hl.1 (K_common l ε hst hH 1 0 (by decide +kernel) (by decide +kernel)) m_12_7 m_12_8 m_12_9 m_0_2 m_12_10 hob rfl hd_yX4_common rfl ⟨⟨by decide, by decide⟩, (Nat.le_of_ble_eq_true rfl), (Nat.le_of_ble_eq_true rfl)⟩ (Nat.le_of_ble_eq_true rfl) rfl dL_harbour_490 kxN (fun v w_4 H locs hq hP hD hS => ?_)
        refine W.widen (k := 1206) (n := 111904) (Nat.le_of_ble_eq_true rfl) (Nat.le_of_ble_eq_true rfl) ?_
        rw [hq.2] at hP hD
        rw [hq.1]
        dsimp only [Option.toList, List.cons_append, List.nil_append]
        rw [show shB (gS U6) 1 0 = 55 by decide +kernel]
        refine lv_bipush (pc := 493) (v := iv 55) hx hb dL_harbour_493 (by decide) ?_
        refine r_icmp_ne (pc := 495) (a := 55) (b := 55) hx hb dL_harbour_495 (tgt := 806) (by decide) ⟨by omega, by omega⟩ ⟨by omega, by omega⟩ (fun c_495 => ?_) (fun c_495 => ?_)
        · exact absurd c_495 (by decide)
        · have c_495_ := c_495
          refine lv_aload_n (pc := 498) hx hb dL_harbour_498 rfl (lv_at hl 0 rfl) ?_
          refine c_callV (pc := 499) (y := yX4_clashes) (As := []) (rest := []) hC hE hP hD hS hl.1 (K_clashes l ε hst hH  ) m_2_8 m_2_9 m_2_10 m_0_2 m_2_11 hob rfl hd_yX4_clashes rfl ⟨⟨by decide, by decide⟩, (Nat.le_of_ble_eq_true rfl), (Nat.le_of_ble_eq_true rfl)⟩ (Nat.le_of_ble_eq_true rfl) rfl dL_harbour_499 kxN (fun v w_5 H locs hq hP hD hS => ?_)
          refine W.widen (k := 1206) (n := 111904) (Nat.le_of_ble_eq_true rfl) (Nat.le_of_ble_eq_true rfl) ?_
          rw [hq.2] at hP hD
          rw [hq.1]
          dsimp only [Option.toList, List.cons_append, List.nil_append]
          rw [show clcB (gS U6) (nS U6 2).toNat = 1 by decide +kernel]
          refine lv_iconst (pc := 502) (v := iv 1) hx hb dL_harbour_502 rfl ?_
          refine r_icmp_ne (pc := 503) (a := 1) (b := 1) hx hb dL_harbour_503 (tgt := 806) (by decide) ⟨by omega, by omega⟩ ⟨by omega, by omega⟩ (fun c_503 => ?_) (fun c_503 => ?_)
          · exact absurd c_503 (by decide)
          · have c_503_ := c_503
            refine W.widen (k := 1206) (n := 111904) (Nat.le_of_ble_eq_true rfl) (Nat.le_of_ble_eq_true rfl) ?_
            exact hnx _ _ _ _ _ _ _ _ _ hC hE hQ _ _ _ _ hH hP hD hS (lv_sub hl [0] rfl)
set_option maxRecDepth 100000 in
set_option maxHeartbeats 8000000 in
theorem sU_9 (l : Launch) (ε : EV) (hst : l.stackTraces = false) {x : Nat}  (hnx : SEG l ε yL_harbour cL_harbour 1 rm_A_harbour (fun v z => v = some (.int (iv 1))) 559 1238 118528 [(0, .ref x)] (fun z => HC ε x U8 z)) : SEG l ε yL_harbour cL_harbour 1 rm_A_harbour (fun v z => v = some (.int (iv 1))) 506 1206 111904 [(0, .ref x)] (fun z => HC ε x U6 z) := by
  intro p9 e9 s9 m9 a9 bl9 me9 c9 Q9 hC hE hQ H locs ls w9 hH hP hD hS hl
  have hx := hC.1
  have hb := hC.2.1
  have hK := hE.K
  obtain ⟨fo, hob⟩ := hH.ob
  refine lv_aload_n (pc := 506) hx hb dL_harbour_506 rfl (lv_at hl 0 rfl) ?_
  refine lv_bipush (pc := 507) (v := iv 31) hx hb dL_harbour_507 (by decide) ?_
  refine lv_bipush (pc := 509) (v := iv 31) hx hb dL_harbour_509 (by decide) ?_
  refine lv_iconst (pc := 511) (v := iv 3) hx hb dL_harbour_511 rfl ?_
  refine lv_iconst (pc := 512) (v := iv 1) hx hb dL_harbour_512 rfl ?_
  refine lv_sipush (pc := 513) (v := iv 255) hx hb dL_harbour_513 (by decide) ?_
  refine c_callV (pc := 516) (y := yX4_lamp) (As := [.int (iv 31), .int (iv 31), .int (iv 3), .int (iv 1), .int (iv 255)]) (rest := []) hC hE hP hD hS hl.1 (K_lamp l ε hst hH 31 31 3 1 255 (by decide +kernel) (by decide +kernel) (by decide +kernel) (by decide +kernel) (by decide +kernel) (by decide +kernel)) m_14_18 m_14_19 m_14_20 m_0_2 m_14_21 hob rfl hd_yX4_lamp rfl ⟨⟨by decide, by decide⟩, (Nat.le_of_ble_eq_true rfl), (Nat.le_of_ble_eq_true rfl)⟩ (Nat.le_of_ble_eq_true rfl) rfl dL_harbour_516 kxN (fun v w_1 H locs hq hP hD hS => ?_)
  refine W.widen (k := 1220) (n := 115204) (Nat.le_of_ble_eq_true rfl) (Nat.le_of_ble_eq_true rfl) ?_
  have hH : HC ε x U7 w_1 := hq.2.cv (S := U7) (by decide +kernel)
  obtain ⟨fo, hob⟩ := hH.ob
  rw [hq.1]
  dsimp only [Option.toList, List.cons_append, List.nil_append]
  rw [show nS U6 2 = 2 by decide +kernel]
  refine lv_iconst (pc := 519) (v := iv 2) hx hb dL_harbour_519 rfl ?_
  refine r_icmp_ne (pc := 520) (a := 2) (b := 2) hx hb dL_harbour_520 (tgt := 806) (by decide) ⟨by omega, by omega⟩ ⟨by omega, by omega⟩ (fun c_520 => ?_) (fun c_520 => ?_)
  · exact absurd c_520 (by decide)
  · have c_520_ := c_520
    refine lv_aload_n (pc := 523) hx hb dL_harbour_523 rfl (lv_at hl 0 rfl) ?_
    refine lv_iconst (pc := 524) (v := iv 2) hx hb dL_harbour_524 rfl ?_
    refine lv_iconst (pc := 525) (v := iv 2) hx hb dL_harbour_525 rfl ?_
    refine c_callV (pc := 526) (y := yX4_common) (As := [.int (iv 2), .int (iv 2)]) (rest := []) hC hE hP hD hS hl.1 (K_common l ε hst hH 2 2 (by decide +kernel) (by decide +kernel)) m_12_7 m_12_8 m_12_9 m_0_2 m_12_10 hob rfl hd_yX4_common rfl ⟨⟨by decide, by decide⟩, (Nat.le_of_ble_eq_true rfl), (Nat.le_of_ble_eq_true rfl)⟩ (Nat.le_of_ble_eq_true rfl) rfl dL_harbour_526 kxN (fun v w_2 H locs hq hP hD hS => ?_)
    refine W.widen (k := 1222) (n := 115216) (Nat.le_of_ble_eq_true rfl) (Nat.le_of_ble_eq_true rfl) ?_
    rw [hq.2] at hP hD
    rw [hq.1]
    dsimp only [Option.toList, List.cons_append, List.nil_append]
    rw [show shB (gS U7) 2 2 = 4 by decide +kernel]
    refine lv_iconst (pc := 529) (v := iv 4) hx hb dL_harbour_529 rfl ?_
    refine r_icmp_ne (pc := 530) (a := 4) (b := 4) hx hb dL_harbour_530 (tgt := 806) (by decide) ⟨by omega, by omega⟩ ⟨by omega, by omega⟩ (fun c_530 => ?_) (fun c_530 => ?_)
    · exact absurd c_530 (by decide)
    · have c_530_ := c_530
      refine lv_aload_n (pc := 533) hx hb dL_harbour_533 rfl (lv_at hl 0 rfl) ?_
      refine lv_iconst (pc := 534) (v := iv 0) hx hb dL_harbour_534 rfl ?_
      refine lv_iconst (pc := 535) (v := iv 2) hx hb dL_harbour_535 rfl ?_
      refine c_callV (pc := 536) (y := yX4_common) (As := [.int (iv 0), .int (iv 2)]) (rest := []) hC hE hP hD hS hl.1 (K_common l ε hst hH 0 2 (by decide +kernel) (by decide +kernel)) m_12_7 m_12_8 m_12_9 m_0_2 m_12_10 hob rfl hd_yX4_common rfl ⟨⟨by decide, by decide⟩, (Nat.le_of_ble_eq_true rfl), (Nat.le_of_ble_eq_true rfl)⟩ (Nat.le_of_ble_eq_true rfl) rfl dL_harbour_536 kxN (fun v w_3 H locs hq hP hD hS => ?_)
      refine W.widen (k := 1224) (n := 115228) (Nat.le_of_ble_eq_true rfl) (Nat.le_of_ble_eq_true rfl) ?_
      rw [hq.2] at hP hD
      rw [hq.1]
      dsimp only [Option.toList, List.cons_append, List.nil_append]
      rw [show shB (gS U7) 0 2 = 0 by decide +kernel]
      refine r_if_ne (pc := 539) (a := 0) hx hb dL_harbour_539 (tgt := 806) (by decide) ⟨by omega, by omega⟩ (fun c_539 => ?_) (fun c_539 => ?_)
      · exact absurd c_539 (by decide)
      · have c_539_ := c_539
        refine lv_aload_n (pc := 542) hx hb dL_harbour_542 rfl (lv_at hl 0 rfl) ?_
        refine lv_bipush (pc := 543) (v := iv 20) hx hb dL_harbour_543 (by decide) ?_
        refine lv_bipush (pc := 545) (v := iv 10) hx hb dL_harbour_545 (by decide) ?_
        refine lv_iconst (pc := 547) (v := iv 2) hx hb dL_harbour_547 rfl ?_
        refine lv_iconst (pc := 548) (v := iv 5) hx hb dL_harbour_548 rfl ?_
        refine lv_sipush (pc := 549) (v := iv 255) hx hb dL_harbour_549 (by decide) ?_
        refine c_callV (pc := 552) (y := yX4_lamp) (As := [.int (iv 20), .int (iv 10), .int (iv 2), .int (iv 5), .int (iv 255)]) (rest := []) hC hE hP hD hS hl.1 (K_lamp l ε hst hH 20 10 2 5 255 (by decide +kernel) (by decide +kernel) (by decide +kernel) (by decide +kernel) (by decide +kernel) (by decide +kernel)) m_14_18 m_14_19 m_14_20 m_0_2 m_14_21 hob rfl hd_yX4_lamp rfl ⟨⟨by decide, by decide⟩, (Nat.le_of_ble_eq_true rfl), (Nat.le_of_ble_eq_true rfl)⟩ (Nat.le_of_ble_eq_true rfl) rfl dL_harbour_552 kxN (fun v w_4 H locs hq hP hD hS => ?_)
        refine W.widen (k := 1238) (n := 118528) (Nat.le_of_ble_eq_true rfl) (Nat.le_of_ble_eq_true rfl) ?_
        have hH : HC ε x U8 w_4 := hq.2.cv (S := U8) (by decide +kernel)
        obtain ⟨fo, hob⟩ := hH.ob
        rw [hq.1]
        dsimp only [Option.toList, List.cons_append, List.nil_append]
        rw [show nS U7 2 = 3 by decide +kernel]
        refine lv_iconst (pc := 555) (v := iv 3) hx hb dL_harbour_555 rfl ?_
        refine r_icmp_ne (pc := 556) (a := 3) (b := 3) hx hb dL_harbour_556 (tgt := 806) (by decide) ⟨by omega, by omega⟩ ⟨by omega, by omega⟩ (fun c_556 => ?_) (fun c_556 => ?_)
        · exact absurd c_556 (by decide)
        · have c_556_ := c_556
          refine W.widen (k := 1238) (n := 118528) (Nat.le_of_ble_eq_true rfl) (Nat.le_of_ble_eq_true rfl) ?_
          exact hnx _ _ _ _ _ _ _ _ _ hC hE hQ _ _ _ _ hH hP hD hS (lv_sub hl [0] rfl)
set_option maxRecDepth 100000 in
set_option maxHeartbeats 8000000 in
theorem sU_10 (l : Launch) (ε : EV) (hst : l.stackTraces = false) {x : Nat}  (hnx : SEG l ε yL_harbour cL_harbour 1 rm_A_harbour (fun v z => v = some (.int (iv 1))) 604 1246 119652 [(0, .ref x)] (fun z => HC ε x U9 z)) : SEG l ε yL_harbour cL_harbour 1 rm_A_harbour (fun v z => v = some (.int (iv 1))) 559 1238 118528 [(0, .ref x)] (fun z => HC ε x U8 z) := by
  intro p9 e9 s9 m9 a9 bl9 me9 c9 Q9 hC hE hQ H locs ls w9 hH hP hD hS hl
  have hx := hC.1
  have hb := hC.2.1
  have hK := hE.K
  obtain ⟨fo, hob⟩ := hH.ob
  refine lv_aload_n (pc := 559) hx hb dL_harbour_559 rfl (lv_at hl 0 rfl) ?_
  refine lv_iconst (pc := 560) (v := iv 0) hx hb dL_harbour_560 rfl ?_
  refine lv_iconst (pc := 561) (v := iv 3) hx hb dL_harbour_561 rfl ?_
  refine c_callV (pc := 562) (y := yX4_common) (As := [.int (iv 0), .int (iv 3)]) (rest := []) hC hE hP hD hS hl.1 (K_common l ε hst hH 0 3 (by decide +kernel) (by decide +kernel)) m_12_7 m_12_8 m_12_9 m_0_2 m_12_10 hob rfl hd_yX4_common rfl ⟨⟨by decide, by decide⟩, (Nat.le_of_ble_eq_true rfl), (Nat.le_of_ble_eq_true rfl)⟩ (Nat.le_of_ble_eq_true rfl) rfl dL_harbour_562 kxN (fun v w_1 H locs hq hP hD hS => ?_)
  refine W.widen (k := 1240) (n := 118540) (Nat.le_of_ble_eq_true rfl) (Nat.le_of_ble_eq_true rfl) ?_
  rw [hq.2] at hP hD
  rw [hq.1]
  dsimp only [Option.toList, List.cons_append, List.nil_append]
  rw [show shB (gS U8) 0 3 = 11 by decide +kernel]
  refine lv_bipush (pc := 565) (v := iv 11) hx hb dL_harbour_565 (by decide) ?_
  refine r_icmp_ne (pc := 567) (a := 11) (b := 11) hx hb dL_harbour_567 (tgt := 806) (by decide) ⟨by omega, by omega⟩ ⟨by omega, by omega⟩ (fun c_567 => ?_) (fun c_567 => ?_)
  · exact absurd c_567 (by decide)
  · have c_567_ := c_567
    refine lv_aload_n (pc := 570) hx hb dL_harbour_570 rfl (lv_at hl 0 rfl) ?_
    refine lv_iconst (pc := 571) (v := iv 1) hx hb dL_harbour_571 rfl ?_
    refine lv_iconst (pc := 572) (v := iv 3) hx hb dL_harbour_572 rfl ?_
    refine c_callV (pc := 573) (y := yX4_common) (As := [.int (iv 1), .int (iv 3)]) (rest := []) hC hE hP hD hS hl.1 (K_common l ε hst hH 1 3 (by decide +kernel) (by decide +kernel)) m_12_7 m_12_8 m_12_9 m_0_2 m_12_10 hob rfl hd_yX4_common rfl ⟨⟨by decide, by decide⟩, (Nat.le_of_ble_eq_true rfl), (Nat.le_of_ble_eq_true rfl)⟩ (Nat.le_of_ble_eq_true rfl) rfl dL_harbour_573 kxN (fun v w_2 H locs hq hP hD hS => ?_)
    refine W.widen (k := 1242) (n := 118552) (Nat.le_of_ble_eq_true rfl) (Nat.le_of_ble_eq_true rfl) ?_
    rw [hq.2] at hP hD
    rw [hq.1]
    dsimp only [Option.toList, List.cons_append, List.nil_append]
    rw [show shB (gS U8) 1 3 = 120 by decide +kernel]
    refine lv_bipush (pc := 576) (v := iv 120) hx hb dL_harbour_576 (by decide) ?_
    refine r_icmp_ne (pc := 578) (a := 120) (b := 120) hx hb dL_harbour_578 (tgt := 806) (by decide) ⟨by omega, by omega⟩ ⟨by omega, by omega⟩ (fun c_578 => ?_) (fun c_578 => ?_)
    · exact absurd c_578 (by decide)
    · have c_578_ := c_578
      refine lv_aload_n (pc := 581) hx hb dL_harbour_581 rfl (lv_at hl 0 rfl) ?_
      refine c_callV (pc := 582) (y := yX4_clashes) (As := []) (rest := []) hC hE hP hD hS hl.1 (K_clashes l ε hst hH  ) m_2_8 m_2_9 m_2_10 m_0_2 m_2_11 hob rfl hd_yX4_clashes rfl ⟨⟨by decide, by decide⟩, (Nat.le_of_ble_eq_true rfl), (Nat.le_of_ble_eq_true rfl)⟩ (Nat.le_of_ble_eq_true rfl) rfl dL_harbour_582 kxN (fun v w_3 H locs hq hP hD hS => ?_)
      refine W.widen (k := 1242) (n := 118552) (Nat.le_of_ble_eq_true rfl) (Nat.le_of_ble_eq_true rfl) ?_
      rw [hq.2] at hP hD
      rw [hq.1]
      dsimp only [Option.toList, List.cons_append, List.nil_append]
      rw [show clcB (gS U8) (nS U8 2).toNat = 1 by decide +kernel]
      refine lv_iconst (pc := 585) (v := iv 1) hx hb dL_harbour_585 rfl ?_
      refine r_icmp_ne (pc := 586) (a := 1) (b := 1) hx hb dL_harbour_586 (tgt := 806) (by decide) ⟨by omega, by omega⟩ ⟨by omega, by omega⟩ (fun c_586 => ?_) (fun c_586 => ?_)
      · exact absurd c_586 (by decide)
      · have c_586_ := c_586
        refine lv_aload_n (pc := 589) hx hb dL_harbour_589 rfl (lv_at hl 0 rfl) ?_
        refine c_callV (pc := 590) (y := yX4_notices) (As := []) (rest := []) hC hE hP hD hS hl.1 (K_notices l ε hst hH  ) m_1_24 m_2_0 m_2_1 m_0_2 m_2_2 hob rfl hd_yX4_notices rfl ⟨⟨by decide, by decide⟩, (Nat.le_of_ble_eq_true rfl), (Nat.le_of_ble_eq_true rfl)⟩ (Nat.le_of_ble_eq_true rfl) rfl dL_harbour_590 kxN (fun v w_4 H locs hq hP hD hS => ?_)
        refine W.widen (k := 1242) (n := 118552) (Nat.le_of_ble_eq_true rfl) (Nat.le_of_ble_eq_true rfl) ?_
        rw [hq.2] at hP hD
        rw [hq.1]
        dsimp only [Option.toList, List.cons_append, List.nil_append]
        rw [show nS U8 3 = 5 by decide +kernel]
        refine lv_iconst (pc := 593) (v := iv 5) hx hb dL_harbour_593 rfl ?_
        refine r_icmp_ne (pc := 594) (a := 5) (b := 5) hx hb dL_harbour_594 (tgt := 806) (by decide) ⟨by omega, by omega⟩ ⟨by omega, by omega⟩ (fun c_594 => ?_) (fun c_594 => ?_)
        · exact absurd c_594 (by decide)
        · have c_594_ := c_594
          refine lv_aload_n (pc := 597) hx hb dL_harbour_597 rfl (lv_at hl 0 rfl) ?_
          refine c_callV (pc := 598) (y := yX4_print) (As := []) (rest := []) hC hE hP hD hS hl.1 (K_print l ε hst hH  (by decide +kernel)) m_12_11 m_12_12 m_12_13 m_0_2 m_12_14 hob rfl hd_yX4_print rfl ⟨⟨by decide, by decide⟩, (Nat.le_of_ble_eq_true rfl), (Nat.le_of_ble_eq_true rfl)⟩ (Nat.le_of_ble_eq_true rfl) rfl dL_harbour_598 kxN (fun v w_5 H locs hq hP hD hS => ?_)
          refine W.widen (k := 1246) (n := 119652) (Nat.le_of_ble_eq_true rfl) (Nat.le_of_ble_eq_true rfl) ?_
          have hH : HC ε x U9 w_5 := hq.2.cv (S := U9) (by decide +kernel)
          obtain ⟨fo, hob⟩ := hH.ob
          rw [hq.1]
          dsimp only [Option.toList, List.cons_append, List.nil_append]
          rw [show nS U8 4 = 0 by decide +kernel]
          refine r_if_ne (pc := 601) (a := 0) hx hb dL_harbour_601 (tgt := 806) (by decide) ⟨by omega, by omega⟩ (fun c_601 => ?_) (fun c_601 => ?_)
          · exact absurd c_601 (by decide)
          · have c_601_ := c_601
            refine W.widen (k := 1246) (n := 119652) (Nat.le_of_ble_eq_true rfl) (Nat.le_of_ble_eq_true rfl) ?_
            exact hnx _ _ _ _ _ _ _ _ _ hC hE hQ _ _ _ _ hH hP hD hS (lv_sub hl [0] rfl)
set_option maxRecDepth 100000 in
set_option maxHeartbeats 8000000 in
theorem sU_11 (l : Launch) (ε : EV) (hst : l.stackTraces = false) {x : Nat}  (hnx : SEG l ε yL_harbour cL_harbour 1 rm_A_harbour (fun v z => v = some (.int (iv 1))) 650 1259 120782 [(0, .ref x)] (fun z => HC ε x U10 z)) : SEG l ε yL_harbour cL_harbour 1 rm_A_harbour (fun v z => v = some (.int (iv 1))) 604 1246 119652 [(0, .ref x)] (fun z => HC ε x U9 z) := by
  intro p9 e9 s9 m9 a9 bl9 me9 c9 Q9 hC hE hQ H locs ls w9 hH hP hD hS hl
  have hx := hC.1
  have hb := hC.2.1
  have hK := hE.K
  obtain ⟨fo, hob⟩ := hH.ob
  refine lv_aload_n (pc := 604) hx hb dL_harbour_604 rfl (lv_at hl 0 rfl) ?_
  refine lv_iconst (pc := 605) (v := iv 0) hx hb dL_harbour_605 rfl ?_
  refine c_callV (pc := 606) (y := yX4_behind) (As := [.int (iv 0)]) (rest := []) hC hE hP hD hS hl.1 (K_behind l ε hst hH 0 (by decide +kernel)) m_14_3 m_14_4 m_14_5 m_0_2 m_14_6 hob rfl hd_yX4_behind rfl ⟨⟨by decide, by decide⟩, (Nat.le_of_ble_eq_true rfl), (Nat.le_of_ble_eq_true rfl)⟩ (Nat.le_of_ble_eq_true rfl) rfl dL_harbour_606 kxN (fun v w_1 H locs hq hP hD hS => ?_)
  refine W.widen (k := 1247) (n := 119658) (Nat.le_of_ble_eq_true rfl) (Nat.le_of_ble_eq_true rfl) ?_
  rw [hq.2] at hP hD
  rw [hq.1]
  dsimp only [Option.toList, List.cons_append, List.nil_append]
  rw [show nS U9 3 - gS U9 12 (0 : Int).toNat = 0 by decide +kernel]
  refine r_if_ne (pc := 609) (a := 0) hx hb dL_harbour_609 (tgt := 806) (by decide) ⟨by omega, by omega⟩ (fun c_609 => ?_) (fun c_609 => ?_)
  · exact absurd c_609 (by decide)
  · have c_609_ := c_609
    refine lv_aload_n (pc := 612) hx hb dL_harbour_612 rfl (lv_at hl 0 rfl) ?_
    refine lv_iconst (pc := 613) (v := iv 0) hx hb dL_harbour_613 rfl ?_
    refine lv_iconst (pc := 614) (v := iv 0) hx hb dL_harbour_614 rfl ?_
    refine c_callV (pc := 615) (y := yX4_shown) (As := [.int (iv 0), .int (iv 0)]) (rest := []) hC hE hP hD hS hl.1 (K_shown l ε hst hH 0 0 (by decide +kernel) (by decide +kernel)) m_14_7 m_14_8 m_14_9 m_0_2 m_14_10 hob rfl hd_yX4_shown rfl ⟨⟨by decide, by decide⟩, (Nat.le_of_ble_eq_true rfl), (Nat.le_of_ble_eq_true rfl)⟩ (Nat.le_of_ble_eq_true rfl) rfl dL_harbour_615 kxN (fun v w_2 H locs hq hP hD hS => ?_)
    refine W.widen (k := 1249) (n := 119670) (Nat.le_of_ble_eq_true rfl) (Nat.le_of_ble_eq_true rfl) ?_
    rw [hq.2] at hP hD
    rw [hq.1]
    dsimp only [Option.toList, List.cons_append, List.nil_append]
    rw [show gS U9 13 (12 * 0 + 0 : Int).toNat = 0 by decide +kernel]
    refine r_if_ne (pc := 618) (a := 0) hx hb dL_harbour_618 (tgt := 806) (by decide) ⟨by omega, by omega⟩ (fun c_618 => ?_) (fun c_618 => ?_)
    · exact absurd c_618 (by decide)
    · have c_618_ := c_618
      refine lv_aload_n (pc := 621) hx hb dL_harbour_621 rfl (lv_at hl 0 rfl) ?_
      refine lv_iconst (pc := 622) (v := iv 0) hx hb dL_harbour_622 rfl ?_
      refine lv_iconst (pc := 623) (v := iv 3) hx hb dL_harbour_623 rfl ?_
      refine c_callV (pc := 624) (y := yX4_shown) (As := [.int (iv 0), .int (iv 3)]) (rest := []) hC hE hP hD hS hl.1 (K_shown l ε hst hH 0 3 (by decide +kernel) (by decide +kernel)) m_14_7 m_14_8 m_14_9 m_0_2 m_14_10 hob rfl hd_yX4_shown rfl ⟨⟨by decide, by decide⟩, (Nat.le_of_ble_eq_true rfl), (Nat.le_of_ble_eq_true rfl)⟩ (Nat.le_of_ble_eq_true rfl) rfl dL_harbour_624 kxN (fun v w_3 H locs hq hP hD hS => ?_)
      refine W.widen (k := 1251) (n := 119682) (Nat.le_of_ble_eq_true rfl) (Nat.le_of_ble_eq_true rfl) ?_
      rw [hq.2] at hP hD
      rw [hq.1]
      dsimp only [Option.toList, List.cons_append, List.nil_append]
      rw [show gS U9 13 (12 * 0 + 3 : Int).toNat = 2 by decide +kernel]
      refine lv_iconst (pc := 627) (v := iv 2) hx hb dL_harbour_627 rfl ?_
      refine r_icmp_ne (pc := 628) (a := 2) (b := 2) hx hb dL_harbour_628 (tgt := 806) (by decide) ⟨by omega, by omega⟩ ⟨by omega, by omega⟩ (fun c_628 => ?_) (fun c_628 => ?_)
      · exact absurd c_628 (by decide)
      · have c_628_ := c_628
        refine lv_aload_n (pc := 631) hx hb dL_harbour_631 rfl (lv_at hl 0 rfl) ?_
        refine lv_iconst (pc := 632) (v := iv 3) hx hb dL_harbour_632 rfl ?_
        refine lv_iconst (pc := 633) (v := iv 0) hx hb dL_harbour_633 rfl ?_
        refine lv_iconst (pc := 634) (v := iv 0) hx hb dL_harbour_634 rfl ?_
        refine c_callV (pc := 635) (y := yX4_change) (As := [.int (iv 3), .int (iv 0), .int (iv 0)]) (rest := []) hC hE hP hD hS hl.1 (K_change l ε hst hH 3 0 0 (by decide +kernel) (by decide +kernel) (by decide +kernel) (by decide +kernel)) m_9_15 m_9_16 m_9_17 m_0_2 m_9_18 hob rfl hd_yX4_change rfl ⟨⟨by decide, by decide⟩, (Nat.le_of_ble_eq_true rfl), (Nat.le_of_ble_eq_true rfl)⟩ (Nat.le_of_ble_eq_true rfl) rfl dL_harbour_635 kxN (fun v w_4 H locs hq hP hD hS => ?_)
        refine W.widen (k := 1259) (n := 120782) (Nat.le_of_ble_eq_true rfl) (Nat.le_of_ble_eq_true rfl) ?_
        have hH : HC ε x U10 w_4 := hq.2.cv (S := U10) (by decide +kernel)
        obtain ⟨fo, hob⟩ := hH.ob
        rw [hq.1]
        dsimp only [Option.toList, List.cons_append, List.nil_append]
        rw [show nS U9 3 = 5 by decide +kernel]
        refine lv_iconst (pc := 638) (v := iv 5) hx hb dL_harbour_638 rfl ?_
        refine r_icmp_ne (pc := 639) (a := 5) (b := 5) hx hb dL_harbour_639 (tgt := 806) (by decide) ⟨by omega, by omega⟩ ⟨by omega, by omega⟩ (fun c_639 => ?_) (fun c_639 => ?_)
        · exact absurd c_639 (by decide)
        · have c_639_ := c_639
          refine lv_aload_n (pc := 642) hx hb dL_harbour_642 rfl (lv_at hl 0 rfl) ?_
          refine c_callV (pc := 643) (y := yX4_clashes) (As := []) (rest := []) hC hE hP hD hS hl.1 (K_clashes l ε hst hH  ) m_2_8 m_2_9 m_2_10 m_0_2 m_2_11 hob rfl hd_yX4_clashes rfl ⟨⟨by decide, by decide⟩, (Nat.le_of_ble_eq_true rfl), (Nat.le_of_ble_eq_true rfl)⟩ (Nat.le_of_ble_eq_true rfl) rfl dL_harbour_643 kxN (fun v w_5 H locs hq hP hD hS => ?_)
          refine W.widen (k := 1259) (n := 120782) (Nat.le_of_ble_eq_true rfl) (Nat.le_of_ble_eq_true rfl) ?_
          rw [hq.2] at hP hD
          rw [hq.1]
          dsimp only [Option.toList, List.cons_append, List.nil_append]
          rw [show clcB (gS U10) (nS U10 2).toNat = 3 by decide +kernel]
          refine lv_iconst (pc := 646) (v := iv 3) hx hb dL_harbour_646 rfl ?_
          refine r_icmp_ne (pc := 647) (a := 3) (b := 3) hx hb dL_harbour_647 (tgt := 806) (by decide) ⟨by omega, by omega⟩ ⟨by omega, by omega⟩ (fun c_647 => ?_) (fun c_647 => ?_)
          · exact absurd c_647 (by decide)
          · have c_647_ := c_647
            refine W.widen (k := 1259) (n := 120782) (Nat.le_of_ble_eq_true rfl) (Nat.le_of_ble_eq_true rfl) ?_
            exact hnx _ _ _ _ _ _ _ _ _ hC hE hQ _ _ _ _ hH hP hD hS (lv_sub hl [0] rfl)
set_option maxRecDepth 100000 in
set_option maxHeartbeats 8000000 in
theorem sU_12 (l : Launch) (ε : EV) (hst : l.stackTraces = false) {x : Nat}  (hnx : SEG l ε yL_harbour cL_harbour 1 rm_A_harbour (fun v z => v = some (.int (iv 1))) 700 1272 121912 [(0, .ref x)] (fun z => HC ε x U11 z)) : SEG l ε yL_harbour cL_harbour 1 rm_A_harbour (fun v z => v = some (.int (iv 1))) 650 1259 120782 [(0, .ref x)] (fun z => HC ε x U10 z) := by
  intro p9 e9 s9 m9 a9 bl9 me9 c9 Q9 hC hE hQ H locs ls w9 hH hP hD hS hl
  have hx := hC.1
  have hb := hC.2.1
  have hK := hE.K
  obtain ⟨fo, hob⟩ := hH.ob
  refine lv_aload_n (pc := 650) hx hb dL_harbour_650 rfl (lv_at hl 0 rfl) ?_
  refine lv_iconst (pc := 651) (v := iv 0) hx hb dL_harbour_651 rfl ?_
  refine lv_iconst (pc := 652) (v := iv 3) hx hb dL_harbour_652 rfl ?_
  refine c_callV (pc := 653) (y := yX4_shown) (As := [.int (iv 0), .int (iv 3)]) (rest := []) hC hE hP hD hS hl.1 (K_shown l ε hst hH 0 3 (by decide +kernel) (by decide +kernel)) m_14_7 m_14_8 m_14_9 m_0_2 m_14_10 hob rfl hd_yX4_shown rfl ⟨⟨by decide, by decide⟩, (Nat.le_of_ble_eq_true rfl), (Nat.le_of_ble_eq_true rfl)⟩ (Nat.le_of_ble_eq_true rfl) rfl dL_harbour_653 kxN (fun v w_1 H locs hq hP hD hS => ?_)
  refine W.widen (k := 1261) (n := 120794) (Nat.le_of_ble_eq_true rfl) (Nat.le_of_ble_eq_true rfl) ?_
  rw [hq.2] at hP hD
  rw [hq.1]
  dsimp only [Option.toList, List.cons_append, List.nil_append]
  rw [show gS U10 13 (12 * 0 + 3 : Int).toNat = 2 by decide +kernel]
  refine lv_iconst (pc := 656) (v := iv 2) hx hb dL_harbour_656 rfl ?_
  refine r_icmp_ne (pc := 657) (a := 2) (b := 2) hx hb dL_harbour_657 (tgt := 806) (by decide) ⟨by omega, by omega⟩ ⟨by omega, by omega⟩ (fun c_657 => ?_) (fun c_657 => ?_)
  · exact absurd c_657 (by decide)
  · have c_657_ := c_657
    refine lv_aload_n (pc := 660) hx hb dL_harbour_660 rfl (lv_at hl 0 rfl) ?_
    refine lv_iconst (pc := 661) (v := iv 0) hx hb dL_harbour_661 rfl ?_
    refine c_callV (pc := 662) (y := yX4_behind) (As := [.int (iv 0)]) (rest := []) hC hE hP hD hS hl.1 (K_behind l ε hst hH 0 (by decide +kernel)) m_14_3 m_14_4 m_14_5 m_0_2 m_14_6 hob rfl hd_yX4_behind rfl ⟨⟨by decide, by decide⟩, (Nat.le_of_ble_eq_true rfl), (Nat.le_of_ble_eq_true rfl)⟩ (Nat.le_of_ble_eq_true rfl) rfl dL_harbour_662 kxN (fun v w_2 H locs hq hP hD hS => ?_)
    refine W.widen (k := 1262) (n := 120800) (Nat.le_of_ble_eq_true rfl) (Nat.le_of_ble_eq_true rfl) ?_
    rw [hq.2] at hP hD
    rw [hq.1]
    dsimp only [Option.toList, List.cons_append, List.nil_append]
    rw [show nS U10 3 - gS U10 12 (0 : Int).toNat = 1 by decide +kernel]
    refine lv_iconst (pc := 665) (v := iv 1) hx hb dL_harbour_665 rfl ?_
    refine r_icmp_ne (pc := 666) (a := 1) (b := 1) hx hb dL_harbour_666 (tgt := 806) (by decide) ⟨by omega, by omega⟩ ⟨by omega, by omega⟩ (fun c_666 => ?_) (fun c_666 => ?_)
    · exact absurd c_666 (by decide)
    · have c_666_ := c_666
      refine lv_aload_n (pc := 669) hx hb dL_harbour_669 rfl (lv_at hl 0 rfl) ?_
      refine lv_iconst (pc := 670) (v := iv 2) hx hb dL_harbour_670 rfl ?_
      refine lv_iconst (pc := 671) (v := iv 0) hx hb dL_harbour_671 rfl ?_
      refine lv_bipush (pc := 672) (v := iv 59) hx hb dL_harbour_672 (by decide) ?_
      refine c_callV (pc := 674) (y := yX4_change) (As := [.int (iv 2), .int (iv 0), .int (iv 59)]) (rest := []) hC hE hP hD hS hl.1 (K_change l ε hst hH 2 0 59 (by decide +kernel) (by decide +kernel) (by decide +kernel) (by decide +kernel)) m_9_15 m_9_16 m_9_17 m_0_2 m_9_18 hob rfl hd_yX4_change rfl ⟨⟨by decide, by decide⟩, (Nat.le_of_ble_eq_true rfl), (Nat.le_of_ble_eq_true rfl)⟩ (Nat.le_of_ble_eq_true rfl) rfl dL_harbour_674 kxN (fun v w_3 H locs hq hP hD hS => ?_)
      refine W.widen (k := 1270) (n := 121900) (Nat.le_of_ble_eq_true rfl) (Nat.le_of_ble_eq_true rfl) ?_
      have hH : HC ε x U11 w_3 := hq.2.cv (S := U11) (by decide +kernel)
      obtain ⟨fo, hob⟩ := hH.ob
      rw [hq.1]
      dsimp only [Option.toList, List.cons_append, List.nil_append]
      rw [show nS U10 3 = 6 by decide +kernel]
      refine lv_bipush (pc := 677) (v := iv 6) hx hb dL_harbour_677 (by decide) ?_
      refine r_icmp_ne (pc := 679) (a := 6) (b := 6) hx hb dL_harbour_679 (tgt := 806) (by decide) ⟨by omega, by omega⟩ ⟨by omega, by omega⟩ (fun c_679 => ?_) (fun c_679 => ?_)
      · exact absurd c_679 (by decide)
      · have c_679_ := c_679
        refine lv_aload_n (pc := 682) hx hb dL_harbour_682 rfl (lv_at hl 0 rfl) ?_
        refine lv_iconst (pc := 683) (v := iv 1) hx hb dL_harbour_683 rfl ?_
        refine lv_iconst (pc := 684) (v := iv 2) hx hb dL_harbour_684 rfl ?_
        refine c_callV (pc := 685) (y := yX4_common) (As := [.int (iv 1), .int (iv 2)]) (rest := []) hC hE hP hD hS hl.1 (K_common l ε hst hH 1 2 (by decide +kernel) (by decide +kernel)) m_12_7 m_12_8 m_12_9 m_0_2 m_12_10 hob rfl hd_yX4_common rfl ⟨⟨by decide, by decide⟩, (Nat.le_of_ble_eq_true rfl), (Nat.le_of_ble_eq_true rfl)⟩ (Nat.le_of_ble_eq_true rfl) rfl dL_harbour_685 kxN (fun v w_4 H locs hq hP hD hS => ?_)
        refine W.widen (k := 1272) (n := 121912) (Nat.le_of_ble_eq_true rfl) (Nat.le_of_ble_eq_true rfl) ?_
        rw [hq.2] at hP hD
        rw [hq.1]
        dsimp only [Option.toList, List.cons_append, List.nil_append]
        rw [show shB (gS U11) 1 2 = 1 by decide +kernel]
        refine lv_iconst (pc := 688) (v := iv 1) hx hb dL_harbour_688 rfl ?_
        refine r_icmp_ne (pc := 689) (a := 1) (b := 1) hx hb dL_harbour_689 (tgt := 806) (by decide) ⟨by omega, by omega⟩ ⟨by omega, by omega⟩ (fun c_689 => ?_) (fun c_689 => ?_)
        · exact absurd c_689 (by decide)
        · have c_689_ := c_689
          refine lv_aload_n (pc := 692) hx hb dL_harbour_692 rfl (lv_at hl 0 rfl) ?_
          refine c_callV (pc := 693) (y := yX4_clashes) (As := []) (rest := []) hC hE hP hD hS hl.1 (K_clashes l ε hst hH  ) m_2_8 m_2_9 m_2_10 m_0_2 m_2_11 hob rfl hd_yX4_clashes rfl ⟨⟨by decide, by decide⟩, (Nat.le_of_ble_eq_true rfl), (Nat.le_of_ble_eq_true rfl)⟩ (Nat.le_of_ble_eq_true rfl) rfl dL_harbour_693 kxN (fun v w_5 H locs hq hP hD hS => ?_)
          refine W.widen (k := 1272) (n := 121912) (Nat.le_of_ble_eq_true rfl) (Nat.le_of_ble_eq_true rfl) ?_
          rw [hq.2] at hP hD
          rw [hq.1]
          dsimp only [Option.toList, List.cons_append, List.nil_append]
          rw [show clcB (gS U11) (nS U11 2).toNat = 4 by decide +kernel]
          refine lv_iconst (pc := 696) (v := iv 4) hx hb dL_harbour_696 rfl ?_
          refine r_icmp_ne (pc := 697) (a := 4) (b := 4) hx hb dL_harbour_697 (tgt := 806) (by decide) ⟨by omega, by omega⟩ ⟨by omega, by omega⟩ (fun c_697 => ?_) (fun c_697 => ?_)
          · exact absurd c_697 (by decide)
          · have c_697_ := c_697
            refine W.widen (k := 1272) (n := 121912) (Nat.le_of_ble_eq_true rfl) (Nat.le_of_ble_eq_true rfl) ?_
            exact hnx _ _ _ _ _ _ _ _ _ hC hE hQ _ _ _ _ hH hP hD hS (lv_sub hl [0] rfl)
set_option maxRecDepth 100000 in
set_option maxHeartbeats 8000000 in
theorem sU_13 (l : Launch) (ε : EV) (hst : l.stackTraces = false) {x : Nat}  (hnx : SEG l ε yL_harbour cL_harbour 1 rm_A_harbour (fun v z => v = some (.int (iv 1))) 750 1285 121996 [(0, .ref x)] (fun z => HC ε x U13 z)) : SEG l ε yL_harbour cL_harbour 1 rm_A_harbour (fun v z => v = some (.int (iv 1))) 700 1272 121912 [(0, .ref x)] (fun z => HC ε x U11 z) := by
  intro p9 e9 s9 m9 a9 bl9 me9 c9 Q9 hC hE hQ H locs ls w9 hH hP hD hS hl
  have hx := hC.1
  have hb := hC.2.1
  have hK := hE.K
  obtain ⟨fo, hob⟩ := hH.ob
  refine lv_aload_n (pc := 700) hx hb dL_harbour_700 rfl (lv_at hl 0 rfl) ?_
  refine lv_iconst (pc := 701) (v := iv 0) hx hb dL_harbour_701 rfl ?_
  refine lv_iconst (pc := 702) (v := iv 1) hx hb dL_harbour_702 rfl ?_
  refine c_callV (pc := 703) (y := yX4_correct) (As := [.int (iv 0), .int (iv 1)]) (rest := []) hC hE hP hD hS hl.1 (K_correct l ε hst hH 0 1 (by decide +kernel) (by decide +kernel)) m_13_15 m_13_16 m_13_17 m_0_2 m_13_18 hob rfl hd_yX4_correct rfl ⟨⟨by decide, by decide⟩, (Nat.le_of_ble_eq_true rfl), (Nat.le_of_ble_eq_true rfl)⟩ (Nat.le_of_ble_eq_true rfl) rfl dL_harbour_703 kxN (fun v w_1 H locs hq hP hD hS => ?_)
  refine W.widen (k := 1275) (n := 121932) (Nat.le_of_ble_eq_true rfl) (Nat.le_of_ble_eq_true rfl) ?_
  have hH : HC ε x U12 w_1 := hq.2.cv (S := U12) (by decide +kernel)
  obtain ⟨fo, hob⟩ := hH.ob
  rw [hq.1]
  dsimp only [Option.toList, List.cons_append, List.nil_append]
  rw [show mn 1 (nS U11 3 - gS U11 12 (0 : Int).toNat) = 1 by decide +kernel]
  refine lv_iconst (pc := 706) (v := iv 1) hx hb dL_harbour_706 rfl ?_
  refine r_icmp_ne (pc := 707) (a := 1) (b := 1) hx hb dL_harbour_707 (tgt := 806) (by decide) ⟨by omega, by omega⟩ ⟨by omega, by omega⟩ (fun c_707 => ?_) (fun c_707 => ?_)
  · exact absurd c_707 (by decide)
  · have c_707_ := c_707
    refine lv_aload_n (pc := 710) hx hb dL_harbour_710 rfl (lv_at hl 0 rfl) ?_
    refine lv_iconst (pc := 711) (v := iv 0) hx hb dL_harbour_711 rfl ?_
    refine lv_iconst (pc := 712) (v := iv 3) hx hb dL_harbour_712 rfl ?_
    refine c_callV (pc := 713) (y := yX4_shown) (As := [.int (iv 0), .int (iv 3)]) (rest := []) hC hE hP hD hS hl.1 (K_shown l ε hst hH 0 3 (by decide +kernel) (by decide +kernel)) m_14_7 m_14_8 m_14_9 m_0_2 m_14_10 hob rfl hd_yX4_shown rfl ⟨⟨by decide, by decide⟩, (Nat.le_of_ble_eq_true rfl), (Nat.le_of_ble_eq_true rfl)⟩ (Nat.le_of_ble_eq_true rfl) rfl dL_harbour_713 kxN (fun v w_2 H locs hq hP hD hS => ?_)
    refine W.widen (k := 1277) (n := 121944) (Nat.le_of_ble_eq_true rfl) (Nat.le_of_ble_eq_true rfl) ?_
    rw [hq.2] at hP hD
    rw [hq.1]
    dsimp only [Option.toList, List.cons_append, List.nil_append]
    rw [show gS U12 13 (12 * 0 + 3 : Int).toNat = 0 by decide +kernel]
    refine r_if_ne (pc := 716) (a := 0) hx hb dL_harbour_716 (tgt := 806) (by decide) ⟨by omega, by omega⟩ (fun c_716 => ?_) (fun c_716 => ?_)
    · exact absurd c_716 (by decide)
    · have c_716_ := c_716
      refine lv_aload_n (pc := 719) hx hb dL_harbour_719 rfl (lv_at hl 0 rfl) ?_
      refine lv_iconst (pc := 720) (v := iv 0) hx hb dL_harbour_720 rfl ?_
      refine lv_iconst (pc := 721) (v := iv 2) hx hb dL_harbour_721 rfl ?_
      refine c_callV (pc := 722) (y := yX4_shown) (As := [.int (iv 0), .int (iv 2)]) (rest := []) hC hE hP hD hS hl.1 (K_shown l ε hst hH 0 2 (by decide +kernel) (by decide +kernel)) m_14_7 m_14_8 m_14_9 m_0_2 m_14_10 hob rfl hd_yX4_shown rfl ⟨⟨by decide, by decide⟩, (Nat.le_of_ble_eq_true rfl), (Nat.le_of_ble_eq_true rfl)⟩ (Nat.le_of_ble_eq_true rfl) rfl dL_harbour_722 kxN (fun v w_3 H locs hq hP hD hS => ?_)
      refine W.widen (k := 1279) (n := 121956) (Nat.le_of_ble_eq_true rfl) (Nat.le_of_ble_eq_true rfl) ?_
      rw [hq.2] at hP hD
      rw [hq.1]
      dsimp only [Option.toList, List.cons_append, List.nil_append]
      rw [show gS U12 13 (12 * 0 + 2 : Int).toNat = 3 by decide +kernel]
      refine lv_iconst (pc := 725) (v := iv 3) hx hb dL_harbour_725 rfl ?_
      refine r_icmp_ne (pc := 726) (a := 3) (b := 3) hx hb dL_harbour_726 (tgt := 806) (by decide) ⟨by omega, by omega⟩ ⟨by omega, by omega⟩ (fun c_726 => ?_) (fun c_726 => ?_)
      · exact absurd c_726 (by decide)
      · have c_726_ := c_726
        refine lv_aload_n (pc := 729) hx hb dL_harbour_729 rfl (lv_at hl 0 rfl) ?_
        refine lv_iconst (pc := 730) (v := iv 0) hx hb dL_harbour_730 rfl ?_
        refine lv_bipush (pc := 731) (v := iv 100) hx hb dL_harbour_731 (by decide) ?_
        refine c_callV (pc := 733) (y := yX4_correct) (As := [.int (iv 0), .int (iv 100)]) (rest := []) hC hE hP hD hS hl.1 (K_correct l ε hst hH 0 100 (by decide +kernel) (by decide +kernel)) m_13_15 m_13_16 m_13_17 m_0_2 m_13_18 hob rfl hd_yX4_correct rfl ⟨⟨by decide, by decide⟩, (Nat.le_of_ble_eq_true rfl), (Nat.le_of_ble_eq_true rfl)⟩ (Nat.le_of_ble_eq_true rfl) rfl dL_harbour_733 kxN (fun v w_4 H locs hq hP hD hS => ?_)
        refine W.widen (k := 1282) (n := 121976) (Nat.le_of_ble_eq_true rfl) (Nat.le_of_ble_eq_true rfl) ?_
        have hH : HC ε x U13 w_4 := hq.2.cv (S := U13) (by decide +kernel)
        obtain ⟨fo, hob⟩ := hH.ob
        rw [hq.1]
        dsimp only [Option.toList, List.cons_append, List.nil_append]
        rw [show mn 100 (nS U12 3 - gS U12 12 (0 : Int).toNat) = 1 by decide +kernel]
        refine lv_iconst (pc := 736) (v := iv 1) hx hb dL_harbour_736 rfl ?_
        refine r_icmp_ne (pc := 737) (a := 1) (b := 1) hx hb dL_harbour_737 (tgt := 806) (by decide) ⟨by omega, by omega⟩ ⟨by omega, by omega⟩ (fun c_737 => ?_) (fun c_737 => ?_)
        · exact absurd c_737 (by decide)
        · have c_737_ := c_737
          refine lv_aload_n (pc := 740) hx hb dL_harbour_740 rfl (lv_at hl 0 rfl) ?_
          refine lv_iconst (pc := 741) (v := iv 0) hx hb dL_harbour_741 rfl ?_
          refine lv_bipush (pc := 742) (v := iv 100) hx hb dL_harbour_742 (by decide) ?_
          refine c_callV (pc := 744) (y := yX4_correct) (As := [.int (iv 0), .int (iv 100)]) (rest := []) hC hE hP hD hS hl.1 (K_correct l ε hst hH 0 100 (by decide +kernel) (by decide +kernel)) m_13_15 m_13_16 m_13_17 m_0_2 m_13_18 hob rfl hd_yX4_correct rfl ⟨⟨by decide, by decide⟩, (Nat.le_of_ble_eq_true rfl), (Nat.le_of_ble_eq_true rfl)⟩ (Nat.le_of_ble_eq_true rfl) rfl dL_harbour_744 kxN (fun v w_5 H locs hq hP hD hS => ?_)
          refine W.widen (k := 1285) (n := 121996) (Nat.le_of_ble_eq_true rfl) (Nat.le_of_ble_eq_true rfl) ?_
          have hH : HC ε x U13 w_5 := hq.2.cv (S := U13) (by decide +kernel)
          obtain ⟨fo, hob⟩ := hH.ob
          rw [hq.1]
          dsimp only [Option.toList, List.cons_append, List.nil_append]
          rw [show mn 100 (nS U13 3 - gS U13 12 (0 : Int).toNat) = 0 by decide +kernel]
          refine r_if_ne (pc := 747) (a := 0) hx hb dL_harbour_747 (tgt := 806) (by decide) ⟨by omega, by omega⟩ (fun c_747 => ?_) (fun c_747 => ?_)
          · exact absurd c_747 (by decide)
          · have c_747_ := c_747
            refine W.widen (k := 1285) (n := 121996) (Nat.le_of_ble_eq_true rfl) (Nat.le_of_ble_eq_true rfl) ?_
            exact hnx _ _ _ _ _ _ _ _ _ hC hE hQ _ _ _ _ hH hP hD hS (lv_sub hl [0] rfl)
set_option maxRecDepth 100000 in
set_option maxHeartbeats 8000000 in
theorem sU_14 (l : Launch) (ε : EV) (hst : l.stackTraces = false) {x : Nat}  (hnx : SEG l ε yL_harbour cL_harbour 1 rm_A_harbour (fun v z => v = some (.int (iv 1))) 796 1301 124220 [(0, .ref x)] (fun z => HC ε x U15 z)) : SEG l ε yL_harbour cL_harbour 1 rm_A_harbour (fun v z => v = some (.int (iv 1))) 750 1285 121996 [(0, .ref x)] (fun z => HC ε x U13 z) := by
  intro p9 e9 s9 m9 a9 bl9 me9 c9 Q9 hC hE hQ H locs ls w9 hH hP hD hS hl
  have hx := hC.1
  have hb := hC.2.1
  have hK := hE.K
  obtain ⟨fo, hob⟩ := hH.ob
  refine lv_aload_n (pc := 750) hx hb dL_harbour_750 rfl (lv_at hl 0 rfl) ?_
  refine lv_iconst (pc := 751) (v := iv 0) hx hb dL_harbour_751 rfl ?_
  refine lv_iconst (pc := 752) (v := iv 2) hx hb dL_harbour_752 rfl ?_
  refine c_callV (pc := 753) (y := yX4_shown) (As := [.int (iv 0), .int (iv 2)]) (rest := []) hC hE hP hD hS hl.1 (K_shown l ε hst hH 0 2 (by decide +kernel) (by decide +kernel)) m_14_7 m_14_8 m_14_9 m_0_2 m_14_10 hob rfl hd_yX4_shown rfl ⟨⟨by decide, by decide⟩, (Nat.le_of_ble_eq_true rfl), (Nat.le_of_ble_eq_true rfl)⟩ (Nat.le_of_ble_eq_true rfl) rfl dL_harbour_753 kxN (fun v w_1 H locs hq hP hD hS => ?_)
  refine W.widen (k := 1287) (n := 122008) (Nat.le_of_ble_eq_true rfl) (Nat.le_of_ble_eq_true rfl) ?_
  rw [hq.2] at hP hD
  rw [hq.1]
  dsimp only [Option.toList, List.cons_append, List.nil_append]
  rw [show gS U13 13 (12 * 0 + 2 : Int).toNat = 0 by decide +kernel]
  refine r_if_ne (pc := 756) (a := 0) hx hb dL_harbour_756 (tgt := 806) (by decide) ⟨by omega, by omega⟩ (fun c_756 => ?_) (fun c_756 => ?_)
  · exact absurd c_756 (by decide)
  · have c_756_ := c_756
    refine lv_aload_n (pc := 759) hx hb dL_harbour_759 rfl (lv_at hl 0 rfl) ?_
    refine lv_iconst (pc := 760) (v := iv 3) hx hb dL_harbour_760 rfl ?_
    refine lv_iconst (pc := 761) (v := iv 2) hx hb dL_harbour_761 rfl ?_
    refine lv_iconst (pc := 762) (v := iv 0) hx hb dL_harbour_762 rfl ?_
    refine c_callV (pc := 763) (y := yX4_change) (As := [.int (iv 3), .int (iv 2), .int (iv 0)]) (rest := []) hC hE hP hD hS hl.1 (K_change l ε hst hH 3 2 0 (by decide +kernel) (by decide +kernel) (by decide +kernel) (by decide +kernel)) m_9_15 m_9_16 m_9_17 m_0_2 m_9_18 hob rfl hd_yX4_change rfl ⟨⟨by decide, by decide⟩, (Nat.le_of_ble_eq_true rfl), (Nat.le_of_ble_eq_true rfl)⟩ (Nat.le_of_ble_eq_true rfl) rfl dL_harbour_763 kxN (fun v w_2 H locs hq hP hD hS => ?_)
    refine W.widen (k := 1295) (n := 123108) (Nat.le_of_ble_eq_true rfl) (Nat.le_of_ble_eq_true rfl) ?_
    have hH : HC ε x U14 w_2 := hq.2.cv (S := U14) (by decide +kernel)
    obtain ⟨fo, hob⟩ := hH.ob
    rw [hq.1]
    dsimp only [Option.toList, List.cons_append, List.nil_append]
    rw [show nS U13 3 = 7 by decide +kernel]
    refine lv_bipush (pc := 766) (v := iv 7) hx hb dL_harbour_766 (by decide) ?_
    refine r_icmp_ne (pc := 768) (a := 7) (b := 7) hx hb dL_harbour_768 (tgt := 806) (by decide) ⟨by omega, by omega⟩ ⟨by omega, by omega⟩ (fun c_768 => ?_) (fun c_768 => ?_)
    · exact absurd c_768 (by decide)
    · have c_768_ := c_768
      refine lv_aload_n (pc := 771) hx hb dL_harbour_771 rfl (lv_at hl 0 rfl) ?_
      refine c_callV (pc := 772) (y := yX4_print) (As := []) (rest := []) hC hE hP hD hS hl.1 (K_print l ε hst hH  (by decide +kernel)) m_12_11 m_12_12 m_12_13 m_0_2 m_12_14 hob rfl hd_yX4_print rfl ⟨⟨by decide, by decide⟩, (Nat.le_of_ble_eq_true rfl), (Nat.le_of_ble_eq_true rfl)⟩ (Nat.le_of_ble_eq_true rfl) rfl dL_harbour_772 kxN (fun v w_3 H locs hq hP hD hS => ?_)
      refine W.widen (k := 1299) (n := 124208) (Nat.le_of_ble_eq_true rfl) (Nat.le_of_ble_eq_true rfl) ?_
      have hH : HC ε x U15 w_3 := hq.2.cv (S := U15) (by decide +kernel)
      obtain ⟨fo, hob⟩ := hH.ob
      rw [hq.1]
      dsimp only [Option.toList, List.cons_append, List.nil_append]
      rw [show nS U14 4 = 1 by decide +kernel]
      refine lv_iconst (pc := 775) (v := iv 1) hx hb dL_harbour_775 rfl ?_
      refine r_icmp_ne (pc := 776) (a := 1) (b := 1) hx hb dL_harbour_776 (tgt := 806) (by decide) ⟨by omega, by omega⟩ ⟨by omega, by omega⟩ (fun c_776 => ?_) (fun c_776 => ?_)
      · exact absurd c_776 (by decide)
      · have c_776_ := c_776
        refine lv_aload_n (pc := 779) hx hb dL_harbour_779 rfl (lv_at hl 0 rfl) ?_
        refine lv_iconst (pc := 780) (v := iv 1) hx hb dL_harbour_780 rfl ?_
        refine c_callV (pc := 781) (y := yX4_behind) (As := [.int (iv 1)]) (rest := []) hC hE hP hD hS hl.1 (K_behind l ε hst hH 1 (by decide +kernel)) m_14_3 m_14_4 m_14_5 m_0_2 m_14_6 hob rfl hd_yX4_behind rfl ⟨⟨by decide, by decide⟩, (Nat.le_of_ble_eq_true rfl), (Nat.le_of_ble_eq_true rfl)⟩ (Nat.le_of_ble_eq_true rfl) rfl dL_harbour_781 kxN (fun v w_4 H locs hq hP hD hS => ?_)
        refine W.widen (k := 1300) (n := 124214) (Nat.le_of_ble_eq_true rfl) (Nat.le_of_ble_eq_true rfl) ?_
        rw [hq.2] at hP hD
        rw [hq.1]
        dsimp only [Option.toList, List.cons_append, List.nil_append]
        rw [show nS U15 3 - gS U15 12 (1 : Int).toNat = 0 by decide +kernel]
        refine r_if_ne (pc := 784) (a := 0) hx hb dL_harbour_784 (tgt := 806) (by decide) ⟨by omega, by omega⟩ (fun c_784 => ?_) (fun c_784 => ?_)
        · exact absurd c_784 (by decide)
        · have c_784_ := c_784
          refine lv_aload_n (pc := 787) hx hb dL_harbour_787 rfl (lv_at hl 0 rfl) ?_
          refine lv_iconst (pc := 788) (v := iv 0) hx hb dL_harbour_788 rfl ?_
          refine c_callV (pc := 789) (y := yX4_behind) (As := [.int (iv 0)]) (rest := []) hC hE hP hD hS hl.1 (K_behind l ε hst hH 0 (by decide +kernel)) m_14_3 m_14_4 m_14_5 m_0_2 m_14_6 hob rfl hd_yX4_behind rfl ⟨⟨by decide, by decide⟩, (Nat.le_of_ble_eq_true rfl), (Nat.le_of_ble_eq_true rfl)⟩ (Nat.le_of_ble_eq_true rfl) rfl dL_harbour_789 kxN (fun v w_5 H locs hq hP hD hS => ?_)
          refine W.widen (k := 1301) (n := 124220) (Nat.le_of_ble_eq_true rfl) (Nat.le_of_ble_eq_true rfl) ?_
          rw [hq.2] at hP hD
          rw [hq.1]
          dsimp only [Option.toList, List.cons_append, List.nil_append]
          rw [show nS U15 3 - gS U15 12 (0 : Int).toNat = 1 by decide +kernel]
          refine lv_iconst (pc := 792) (v := iv 1) hx hb dL_harbour_792 rfl ?_
          refine r_icmp_ne (pc := 793) (a := 1) (b := 1) hx hb dL_harbour_793 (tgt := 806) (by decide) ⟨by omega, by omega⟩ ⟨by omega, by omega⟩ (fun c_793 => ?_) (fun c_793 => ?_)
          · exact absurd c_793 (by decide)
          · have c_793_ := c_793
            refine W.widen (k := 1301) (n := 124220) (Nat.le_of_ble_eq_true rfl) (Nat.le_of_ble_eq_true rfl) ?_
            exact hnx _ _ _ _ _ _ _ _ _ hC hE hQ _ _ _ _ hH hP hD hS (lv_sub hl [0] rfl)
set_option maxRecDepth 100000 in
set_option maxHeartbeats 8000000 in
theorem sU_15 (l : Launch) (ε : EV) (hst : l.stackTraces = false) {x : Nat}  (hnx : SEG l ε yL_harbour cL_harbour 1 rm_A_harbour (fun v z => v = some (.int (iv 1))) 856 2163 210960 [(0, .ref x)] (fun z => HC ε x U15 z)) : SEG l ε yL_harbour cL_harbour 1 rm_A_harbour (fun v z => v = some (.int (iv 1))) 796 1301 124220 [(0, .ref x)] (fun z => HC ε x U15 z) := by
  intro p9 e9 s9 m9 a9 bl9 me9 c9 Q9 hC hE hQ H locs ls w9 hH hP hD hS hl
  have hx := hC.1
  have hb := hC.2.1
  have hK := hE.K
  obtain ⟨fo, hob⟩ := hH.ob
  refine lv_aload_n (pc := 796) hx hb dL_harbour_796 rfl (lv_at hl 0 rfl) ?_
  refine lv_iconst (pc := 797) (v := iv 4) hx hb dL_harbour_797 rfl ?_
  refine lv_iconst (pc := 798) (v := iv 4) hx hb dL_harbour_798 rfl ?_
  refine lv_iconst (pc := 799) (v := iv 2) hx hb dL_harbour_799 rfl ?_
  refine c_callS (pc := 800) (y := yL_refuses) (As := [.ref x, .int (iv 4), .int (iv 4), .int (iv 2)]) (rest := []) hC hE hP hD hS hl.1 (A_refuses l ε hst hH 4 4 2 (by decide +kernel) (by decide +kernel) (by decide +kernel) (by decide +kernel)) m_1_19 m_1_20 m_0_5 m_1_21 hd_yL_refuses rfl ⟨⟨by decide, by decide⟩, (Nat.le_of_ble_eq_true rfl), (Nat.le_of_ble_eq_true rfl)⟩ (Nat.le_of_ble_eq_true rfl) rfl dL_harbour_800 kxN (fun v w_1 H locs hq hP hD hS => ?_)
  refine W.widen (k := 2145) (n := 210852) (Nat.le_of_ble_eq_true rfl) (Nat.le_of_ble_eq_true rfl) ?_
  rw [hq.2] at hP hD
  rw [hq.1]
  dsimp only [Option.toList, List.cons_append, List.nil_append]
  refine r_if_ne (pc := 803) (a := 1) hx hb dL_harbour_803 (tgt := 808) (by decide) ⟨by omega, by omega⟩ (fun c_803 => ?_) (fun c_803 => ?_)
  · have c_803_ := c_803
    refine lv_aload_n (pc := 808) hx hb dL_harbour_808 rfl (lv_at hl 0 rfl) ?_
    refine lv_iconst (pc := 809) (v := iv 1) hx hb dL_harbour_809 rfl ?_
    refine lv_bipush (pc := 810) (v := iv 15) hx hb dL_harbour_810 (by decide) ?_
    refine lv_bipush (pc := 812) (v := iv 10) hx hb dL_harbour_812 (by decide) ?_
    refine lv_iconst (pc := 814) (v := iv 0) hx hb dL_harbour_814 rfl ?_
    refine lv_iconst (pc := 815) (v := iv 0) hx hb dL_harbour_815 rfl ?_
    refine lv_iconst (pc := 816) (v := iv 5) hx hb dL_harbour_816 rfl ?_
    refine c_callV (pc := 817) (y := yX4_taken) (As := [.int (iv 1), .int (iv 15), .int (iv 10), .int (iv 0), .int (iv 0), .int (iv 5)]) (rest := []) hC hE hP hD hS hl.1 (K_taken l ε hst hH 1 15 10 0 0 5 (by decide +kernel) (by decide +kernel) (by decide +kernel) (by decide +kernel) (by decide +kernel)) m_15_15 m_15_16 m_15_17 m_0_2 m_15_18 hob rfl hd_yX4_taken rfl ⟨⟨by decide, by decide⟩, (Nat.le_of_ble_eq_true rfl), (Nat.le_of_ble_eq_true rfl)⟩ (Nat.le_of_ble_eq_true rfl) rfl dL_harbour_817 kxN (fun v w_2 H locs hq hP hD hS => ?_)
    refine W.widen (k := 2151) (n := 210888) (Nat.le_of_ble_eq_true rfl) (Nat.le_of_ble_eq_true rfl) ?_
    rw [hq.2] at hP hD
    rw [hq.1]
    dsimp only [Option.toList, List.cons_append, List.nil_append]
    rw [show takB (gS U15) 1 15 10 0 0 5 (nS U15 2).toNat = (-2) by decide +kernel]
    refine lv_bipush (pc := 820) (v := iv (-2)) hx hb dL_harbour_820 (by decide) ?_
    refine r_icmp_ne (pc := 822) (a := (-2)) (b := (-2)) hx hb dL_harbour_822 (tgt := 1127) (by decide) ⟨by omega, by omega⟩ ⟨by omega, by omega⟩ (fun c_822 => ?_) (fun c_822 => ?_)
    · exact absurd c_822 (by decide)
    · have c_822_ := c_822
      refine lv_aload_n (pc := 825) hx hb dL_harbour_825 rfl (lv_at hl 0 rfl) ?_
      refine lv_iconst (pc := 826) (v := iv 1) hx hb dL_harbour_826 rfl ?_
      refine lv_bipush (pc := 827) (v := iv 10) hx hb dL_harbour_827 (by decide) ?_
      refine lv_bipush (pc := 829) (v := iv 15) hx hb dL_harbour_829 (by decide) ?_
      refine lv_iconst (pc := 831) (v := iv 0) hx hb dL_harbour_831 rfl ?_
      refine lv_iconst (pc := 832) (v := iv 0) hx hb dL_harbour_832 rfl ?_
      refine lv_iconst (pc := 833) (v := iv 5) hx hb dL_harbour_833 rfl ?_
      refine c_callV (pc := 834) (y := yX4_taken) (As := [.int (iv 1), .int (iv 10), .int (iv 15), .int (iv 0), .int (iv 0), .int (iv 5)]) (rest := []) hC hE hP hD hS hl.1 (K_taken l ε hst hH 1 10 15 0 0 5 (by decide +kernel) (by decide +kernel) (by decide +kernel) (by decide +kernel) (by decide +kernel)) m_15_15 m_15_16 m_15_17 m_0_2 m_15_18 hob rfl hd_yX4_taken rfl ⟨⟨by decide, by decide⟩, (Nat.le_of_ble_eq_true rfl), (Nat.le_of_ble_eq_true rfl)⟩ (Nat.le_of_ble_eq_true rfl) rfl dL_harbour_834 kxN (fun v w_3 H locs hq hP hD hS => ?_)
      refine W.widen (k := 2157) (n := 210924) (Nat.le_of_ble_eq_true rfl) (Nat.le_of_ble_eq_true rfl) ?_
      rw [hq.2] at hP hD
      rw [hq.1]
      dsimp only [Option.toList, List.cons_append, List.nil_append]
      rw [show takB (gS U15) 1 10 15 0 0 5 (nS U15 2).toNat = 0 by decide +kernel]
      refine r_if_ne (pc := 837) (a := 0) hx hb dL_harbour_837 (tgt := 1127) (by decide) ⟨by omega, by omega⟩ (fun c_837 => ?_) (fun c_837 => ?_)
      · exact absurd c_837 (by decide)
      · have c_837_ := c_837
        refine lv_aload_n (pc := 840) hx hb dL_harbour_840 rfl (lv_at hl 0 rfl) ?_
        refine lv_iconst (pc := 841) (v := iv 1) hx hb dL_harbour_841 rfl ?_
        refine lv_bipush (pc := 842) (v := iv 15) hx hb dL_harbour_842 (by decide) ?_
        refine lv_bipush (pc := 844) (v := iv 10) hx hb dL_harbour_844 (by decide) ?_
        refine lv_iconst (pc := 846) (v := iv 3) hx hb dL_harbour_846 rfl ?_
        refine lv_iconst (pc := 847) (v := iv 0) hx hb dL_harbour_847 rfl ?_
        refine lv_iconst (pc := 848) (v := iv 5) hx hb dL_harbour_848 rfl ?_
        refine c_callV (pc := 849) (y := yX4_taken) (As := [.int (iv 1), .int (iv 15), .int (iv 10), .int (iv 3), .int (iv 0), .int (iv 5)]) (rest := []) hC hE hP hD hS hl.1 (K_taken l ε hst hH 1 15 10 3 0 5 (by decide +kernel) (by decide +kernel) (by decide +kernel) (by decide +kernel) (by decide +kernel)) m_15_15 m_15_16 m_15_17 m_0_2 m_15_18 hob rfl hd_yX4_taken rfl ⟨⟨by decide, by decide⟩, (Nat.le_of_ble_eq_true rfl), (Nat.le_of_ble_eq_true rfl)⟩ (Nat.le_of_ble_eq_true rfl) rfl dL_harbour_849 kxN (fun v w_4 H locs hq hP hD hS => ?_)
        refine W.widen (k := 2163) (n := 210960) (Nat.le_of_ble_eq_true rfl) (Nat.le_of_ble_eq_true rfl) ?_
        rw [hq.2] at hP hD
        rw [hq.1]
        dsimp only [Option.toList, List.cons_append, List.nil_append]
        rw [show takB (gS U15) 1 15 10 3 0 5 (nS U15 2).toNat = 3 by decide +kernel]
        refine lv_iconst (pc := 852) (v := iv 3) hx hb dL_harbour_852 rfl ?_
        refine r_icmp_ne (pc := 853) (a := 3) (b := 3) hx hb dL_harbour_853 (tgt := 1127) (by decide) ⟨by omega, by omega⟩ ⟨by omega, by omega⟩ (fun c_853 => ?_) (fun c_853 => ?_)
        · exact absurd c_853 (by decide)
        · have c_853_ := c_853
          refine W.widen (k := 2163) (n := 210960) (Nat.le_of_ble_eq_true rfl) (Nat.le_of_ble_eq_true rfl) ?_
          exact hnx _ _ _ _ _ _ _ _ _ hC hE hQ _ _ _ _ hH hP hD hS (lv_sub hl [0] rfl)
  · exact absurd c_803 (by decide)
set_option maxRecDepth 100000 in
set_option maxHeartbeats 8000000 in
theorem sU_16 (l : Launch) (ε : EV) (hst : l.stackTraces = false) {x : Nat}  (hnx : SEG l ε yL_harbour cL_harbour 1 rm_A_harbour (fun v z => v = some (.int (iv 1))) 924 2187 211104 [(0, .ref x)] (fun z => HC ε x U15 z)) : SEG l ε yL_harbour cL_harbour 1 rm_A_harbour (fun v z => v = some (.int (iv 1))) 856 2163 210960 [(0, .ref x)] (fun z => HC ε x U15 z) := by
  intro p9 e9 s9 m9 a9 bl9 me9 c9 Q9 hC hE hQ H locs ls w9 hH hP hD hS hl
  have hx := hC.1
  have hb := hC.2.1
  have hK := hE.K
  obtain ⟨fo, hob⟩ := hH.ob
  refine lv_aload_n (pc := 856) hx hb dL_harbour_856 rfl (lv_at hl 0 rfl) ?_
  refine lv_iconst (pc := 857) (v := iv 1) hx hb dL_harbour_857 rfl ?_
  refine lv_bipush (pc := 858) (v := iv 15) hx hb dL_harbour_858 (by decide) ?_
  refine lv_bipush (pc := 860) (v := iv 10) hx hb dL_harbour_860 (by decide) ?_
  refine lv_iconst (pc := 862) (v := iv 3) hx hb dL_harbour_862 rfl ?_
  refine lv_iconst (pc := 863) (v := iv 0) hx hb dL_harbour_863 rfl ?_
  refine lv_iconst (pc := 864) (v := iv 2) hx hb dL_harbour_864 rfl ?_
  refine c_callV (pc := 865) (y := yX4_taken) (As := [.int (iv 1), .int (iv 15), .int (iv 10), .int (iv 3), .int (iv 0), .int (iv 2)]) (rest := []) hC hE hP hD hS hl.1 (K_taken l ε hst hH 1 15 10 3 0 2 (by decide +kernel) (by decide +kernel) (by decide +kernel) (by decide +kernel) (by decide +kernel)) m_15_15 m_15_16 m_15_17 m_0_2 m_15_18 hob rfl hd_yX4_taken rfl ⟨⟨by decide, by decide⟩, (Nat.le_of_ble_eq_true rfl), (Nat.le_of_ble_eq_true rfl)⟩ (Nat.le_of_ble_eq_true rfl) rfl dL_harbour_865 kxN (fun v w_1 H locs hq hP hD hS => ?_)
  refine W.widen (k := 2169) (n := 210996) (Nat.le_of_ble_eq_true rfl) (Nat.le_of_ble_eq_true rfl) ?_
  rw [hq.2] at hP hD
  rw [hq.1]
  dsimp only [Option.toList, List.cons_append, List.nil_append]
  rw [show takB (gS U15) 1 15 10 3 0 2 (nS U15 2).toNat = (-2) by decide +kernel]
  refine lv_bipush (pc := 868) (v := iv (-2)) hx hb dL_harbour_868 (by decide) ?_
  refine r_icmp_ne (pc := 870) (a := (-2)) (b := (-2)) hx hb dL_harbour_870 (tgt := 1127) (by decide) ⟨by omega, by omega⟩ ⟨by omega, by omega⟩ (fun c_870 => ?_) (fun c_870 => ?_)
  · exact absurd c_870 (by decide)
  · have c_870_ := c_870
    refine lv_aload_n (pc := 873) hx hb dL_harbour_873 rfl (lv_at hl 0 rfl) ?_
    refine lv_iconst (pc := 874) (v := iv 1) hx hb dL_harbour_874 rfl ?_
    refine lv_bipush (pc := 875) (v := iv 20) hx hb dL_harbour_875 (by decide) ?_
    refine lv_bipush (pc := 877) (v := iv 10) hx hb dL_harbour_877 (by decide) ?_
    refine lv_iconst (pc := 879) (v := iv 3) hx hb dL_harbour_879 rfl ?_
    refine lv_iconst (pc := 880) (v := iv 0) hx hb dL_harbour_880 rfl ?_
    refine lv_bipush (pc := 881) (v := iv 60) hx hb dL_harbour_881 (by decide) ?_
    refine c_callV (pc := 883) (y := yX4_taken) (As := [.int (iv 1), .int (iv 20), .int (iv 10), .int (iv 3), .int (iv 0), .int (iv 60)]) (rest := []) hC hE hP hD hS hl.1 (K_taken l ε hst hH 1 20 10 3 0 60 (by decide +kernel) (by decide +kernel) (by decide +kernel) (by decide +kernel) (by decide +kernel)) m_15_15 m_15_16 m_15_17 m_0_2 m_15_18 hob rfl hd_yX4_taken rfl ⟨⟨by decide, by decide⟩, (Nat.le_of_ble_eq_true rfl), (Nat.le_of_ble_eq_true rfl)⟩ (Nat.le_of_ble_eq_true rfl) rfl dL_harbour_883 kxN (fun v w_2 H locs hq hP hD hS => ?_)
    refine W.widen (k := 2175) (n := 211032) (Nat.le_of_ble_eq_true rfl) (Nat.le_of_ble_eq_true rfl) ?_
    rw [hq.2] at hP hD
    rw [hq.1]
    dsimp only [Option.toList, List.cons_append, List.nil_append]
    rw [show takB (gS U15) 1 20 10 3 0 60 (nS U15 2).toNat = 3 by decide +kernel]
    refine lv_iconst (pc := 886) (v := iv 3) hx hb dL_harbour_886 rfl ?_
    refine r_icmp_ne (pc := 887) (a := 3) (b := 3) hx hb dL_harbour_887 (tgt := 1127) (by decide) ⟨by omega, by omega⟩ ⟨by omega, by omega⟩ (fun c_887 => ?_) (fun c_887 => ?_)
    · exact absurd c_887 (by decide)
    · have c_887_ := c_887
      refine lv_aload_n (pc := 890) hx hb dL_harbour_890 rfl (lv_at hl 0 rfl) ?_
      refine lv_iconst (pc := 891) (v := iv 1) hx hb dL_harbour_891 rfl ?_
      refine lv_bipush (pc := 892) (v := iv 15) hx hb dL_harbour_892 (by decide) ?_
      refine lv_bipush (pc := 894) (v := iv 10) hx hb dL_harbour_894 (by decide) ?_
      refine lv_iconst (pc := 896) (v := iv 1) hx hb dL_harbour_896 rfl ?_
      refine lv_sipush (pc := 897) (v := iv 1000) hx hb dL_harbour_897 (by decide) ?_
      refine lv_bipush (pc := 900) (v := iv 60) hx hb dL_harbour_900 (by decide) ?_
      refine c_callV (pc := 902) (y := yX4_taken) (As := [.int (iv 1), .int (iv 15), .int (iv 10), .int (iv 1), .int (iv 1000), .int (iv 60)]) (rest := []) hC hE hP hD hS hl.1 (K_taken l ε hst hH 1 15 10 1 1000 60 (by decide +kernel) (by decide +kernel) (by decide +kernel) (by decide +kernel) (by decide +kernel)) m_15_15 m_15_16 m_15_17 m_0_2 m_15_18 hob rfl hd_yX4_taken rfl ⟨⟨by decide, by decide⟩, (Nat.le_of_ble_eq_true rfl), (Nat.le_of_ble_eq_true rfl)⟩ (Nat.le_of_ble_eq_true rfl) rfl dL_harbour_902 kxN (fun v w_3 H locs hq hP hD hS => ?_)
      refine W.widen (k := 2181) (n := 211068) (Nat.le_of_ble_eq_true rfl) (Nat.le_of_ble_eq_true rfl) ?_
      rw [hq.2] at hP hD
      rw [hq.1]
      dsimp only [Option.toList, List.cons_append, List.nil_append]
      rw [show takB (gS U15) 1 15 10 1 1000 60 (nS U15 2).toNat = (-2) by decide +kernel]
      refine lv_bipush (pc := 905) (v := iv (-2)) hx hb dL_harbour_905 (by decide) ?_
      refine r_icmp_ne (pc := 907) (a := (-2)) (b := (-2)) hx hb dL_harbour_907 (tgt := 1127) (by decide) ⟨by omega, by omega⟩ ⟨by omega, by omega⟩ (fun c_907 => ?_) (fun c_907 => ?_)
      · exact absurd c_907 (by decide)
      · have c_907_ := c_907
        refine lv_aload_n (pc := 910) hx hb dL_harbour_910 rfl (lv_at hl 0 rfl) ?_
        refine lv_iconst (pc := 911) (v := iv 1) hx hb dL_harbour_911 rfl ?_
        refine lv_iconst (pc := 912) (v := iv 5) hx hb dL_harbour_912 rfl ?_
        refine lv_iconst (pc := 913) (v := iv 5) hx hb dL_harbour_913 rfl ?_
        refine lv_iconst (pc := 914) (v := iv 3) hx hb dL_harbour_914 rfl ?_
        refine lv_iconst (pc := 915) (v := iv 0) hx hb dL_harbour_915 rfl ?_
        refine lv_iconst (pc := 916) (v := iv 5) hx hb dL_harbour_916 rfl ?_
        refine c_callV (pc := 917) (y := yX4_taken) (As := [.int (iv 1), .int (iv 5), .int (iv 5), .int (iv 3), .int (iv 0), .int (iv 5)]) (rest := []) hC hE hP hD hS hl.1 (K_taken l ε hst hH 1 5 5 3 0 5 (by decide +kernel) (by decide +kernel) (by decide +kernel) (by decide +kernel) (by decide +kernel)) m_15_15 m_15_16 m_15_17 m_0_2 m_15_18 hob rfl hd_yX4_taken rfl ⟨⟨by decide, by decide⟩, (Nat.le_of_ble_eq_true rfl), (Nat.le_of_ble_eq_true rfl)⟩ (Nat.le_of_ble_eq_true rfl) rfl dL_harbour_917 kxN (fun v w_4 H locs hq hP hD hS => ?_)
        refine W.widen (k := 2187) (n := 211104) (Nat.le_of_ble_eq_true rfl) (Nat.le_of_ble_eq_true rfl) ?_
        rw [hq.2] at hP hD
        rw [hq.1]
        dsimp only [Option.toList, List.cons_append, List.nil_append]
        rw [show takB (gS U15) 1 5 5 3 0 5 (nS U15 2).toNat = (-1) by decide +kernel]
        refine lv_iconst (pc := 920) (v := iv (-1)) hx hb dL_harbour_920 rfl ?_
        refine r_icmp_ne (pc := 921) (a := (-1)) (b := (-1)) hx hb dL_harbour_921 (tgt := 1127) (by decide) ⟨by omega, by omega⟩ ⟨by omega, by omega⟩ (fun c_921 => ?_) (fun c_921 => ?_)
        · exact absurd c_921 (by decide)
        · have c_921_ := c_921
          refine W.widen (k := 2187) (n := 211104) (Nat.le_of_ble_eq_true rfl) (Nat.le_of_ble_eq_true rfl) ?_
          exact hnx _ _ _ _ _ _ _ _ _ hC hE hQ _ _ _ _ hH hP hD hS (lv_sub hl [0] rfl)
set_option maxRecDepth 100000 in
set_option maxHeartbeats 8000000 in
theorem sU_17 (l : Launch) (ε : EV) (hst : l.stackTraces = false) {x : Nat}  (hnx : SEG l ε yL_harbour cL_harbour 1 rm_A_harbour (fun v z => v = some (.int (iv 1))) 988 2211 211248 [(0, .ref x)] (fun z => HC ε x U15 z)) : SEG l ε yL_harbour cL_harbour 1 rm_A_harbour (fun v z => v = some (.int (iv 1))) 924 2187 211104 [(0, .ref x)] (fun z => HC ε x U15 z) := by
  intro p9 e9 s9 m9 a9 bl9 me9 c9 Q9 hC hE hQ H locs ls w9 hH hP hD hS hl
  have hx := hC.1
  have hb := hC.2.1
  have hK := hE.K
  obtain ⟨fo, hob⟩ := hH.ob
  refine lv_aload_n (pc := 924) hx hb dL_harbour_924 rfl (lv_at hl 0 rfl) ?_
  refine lv_iconst (pc := 925) (v := iv 1) hx hb dL_harbour_925 rfl ?_
  refine lv_iconst (pc := 926) (v := iv 0) hx hb dL_harbour_926 rfl ?_
  refine lv_iconst (pc := 927) (v := iv 1) hx hb dL_harbour_927 rfl ?_
  refine lv_iconst (pc := 928) (v := iv 3) hx hb dL_harbour_928 rfl ?_
  refine lv_iconst (pc := 929) (v := iv 0) hx hb dL_harbour_929 rfl ?_
  refine lv_iconst (pc := 930) (v := iv 5) hx hb dL_harbour_930 rfl ?_
  refine c_callV (pc := 931) (y := yX4_taken) (As := [.int (iv 1), .int (iv 0), .int (iv 1), .int (iv 3), .int (iv 0), .int (iv 5)]) (rest := []) hC hE hP hD hS hl.1 (K_taken l ε hst hH 1 0 1 3 0 5 (by decide +kernel) (by decide +kernel) (by decide +kernel) (by decide +kernel) (by decide +kernel)) m_15_15 m_15_16 m_15_17 m_0_2 m_15_18 hob rfl hd_yX4_taken rfl ⟨⟨by decide, by decide⟩, (Nat.le_of_ble_eq_true rfl), (Nat.le_of_ble_eq_true rfl)⟩ (Nat.le_of_ble_eq_true rfl) rfl dL_harbour_931 kxN (fun v w_1 H locs hq hP hD hS => ?_)
  refine W.widen (k := 2193) (n := 211140) (Nat.le_of_ble_eq_true rfl) (Nat.le_of_ble_eq_true rfl) ?_
  rw [hq.2] at hP hD
  rw [hq.1]
  dsimp only [Option.toList, List.cons_append, List.nil_append]
  rw [show takB (gS U15) 1 0 1 3 0 5 (nS U15 2).toNat = (-1) by decide +kernel]
  refine lv_iconst (pc := 934) (v := iv (-1)) hx hb dL_harbour_934 rfl ?_
  refine r_icmp_ne (pc := 935) (a := (-1)) (b := (-1)) hx hb dL_harbour_935 (tgt := 1127) (by decide) ⟨by omega, by omega⟩ ⟨by omega, by omega⟩ (fun c_935 => ?_) (fun c_935 => ?_)
  · exact absurd c_935 (by decide)
  · have c_935_ := c_935
    refine lv_aload_n (pc := 938) hx hb dL_harbour_938 rfl (lv_at hl 0 rfl) ?_
    refine lv_iconst (pc := 939) (v := iv 1) hx hb dL_harbour_939 rfl ?_
    refine lv_bipush (pc := 940) (v := iv 31) hx hb dL_harbour_940 (by decide) ?_
    refine lv_bipush (pc := 942) (v := iv 30) hx hb dL_harbour_942 (by decide) ?_
    refine lv_iconst (pc := 944) (v := iv 0) hx hb dL_harbour_944 rfl ?_
    refine lv_iconst (pc := 945) (v := iv 0) hx hb dL_harbour_945 rfl ?_
    refine lv_iconst (pc := 946) (v := iv 4) hx hb dL_harbour_946 rfl ?_
    refine c_callV (pc := 947) (y := yX4_taken) (As := [.int (iv 1), .int (iv 31), .int (iv 30), .int (iv 0), .int (iv 0), .int (iv 4)]) (rest := []) hC hE hP hD hS hl.1 (K_taken l ε hst hH 1 31 30 0 0 4 (by decide +kernel) (by decide +kernel) (by decide +kernel) (by decide +kernel) (by decide +kernel)) m_15_15 m_15_16 m_15_17 m_0_2 m_15_18 hob rfl hd_yX4_taken rfl ⟨⟨by decide, by decide⟩, (Nat.le_of_ble_eq_true rfl), (Nat.le_of_ble_eq_true rfl)⟩ (Nat.le_of_ble_eq_true rfl) rfl dL_harbour_947 kxN (fun v w_2 H locs hq hP hD hS => ?_)
    refine W.widen (k := 2199) (n := 211176) (Nat.le_of_ble_eq_true rfl) (Nat.le_of_ble_eq_true rfl) ?_
    rw [hq.2] at hP hD
    rw [hq.1]
    dsimp only [Option.toList, List.cons_append, List.nil_append]
    rw [show takB (gS U15) 1 31 30 0 0 4 (nS U15 2).toNat = (-2) by decide +kernel]
    refine lv_bipush (pc := 950) (v := iv (-2)) hx hb dL_harbour_950 (by decide) ?_
    refine r_icmp_ne (pc := 952) (a := (-2)) (b := (-2)) hx hb dL_harbour_952 (tgt := 1127) (by decide) ⟨by omega, by omega⟩ ⟨by omega, by omega⟩ (fun c_952 => ?_) (fun c_952 => ?_)
    · exact absurd c_952 (by decide)
    · have c_952_ := c_952
      refine lv_aload_n (pc := 955) hx hb dL_harbour_955 rfl (lv_at hl 0 rfl) ?_
      refine lv_iconst (pc := 956) (v := iv 0) hx hb dL_harbour_956 rfl ?_
      refine lv_bipush (pc := 957) (v := iv 15) hx hb dL_harbour_957 (by decide) ?_
      refine lv_bipush (pc := 959) (v := iv 10) hx hb dL_harbour_959 (by decide) ?_
      refine lv_iconst (pc := 961) (v := iv 3) hx hb dL_harbour_961 rfl ?_
      refine lv_iconst (pc := 962) (v := iv 0) hx hb dL_harbour_962 rfl ?_
      refine lv_iconst (pc := 963) (v := iv 5) hx hb dL_harbour_963 rfl ?_
      refine c_callV (pc := 964) (y := yX4_taken) (As := [.int (iv 0), .int (iv 15), .int (iv 10), .int (iv 3), .int (iv 0), .int (iv 5)]) (rest := []) hC hE hP hD hS hl.1 (K_taken l ε hst hH 0 15 10 3 0 5 (by decide +kernel) (by decide +kernel) (by decide +kernel) (by decide +kernel) (by decide +kernel)) m_15_15 m_15_16 m_15_17 m_0_2 m_15_18 hob rfl hd_yX4_taken rfl ⟨⟨by decide, by decide⟩, (Nat.le_of_ble_eq_true rfl), (Nat.le_of_ble_eq_true rfl)⟩ (Nat.le_of_ble_eq_true rfl) rfl dL_harbour_964 kxN (fun v w_3 H locs hq hP hD hS => ?_)
      refine W.widen (k := 2205) (n := 211212) (Nat.le_of_ble_eq_true rfl) (Nat.le_of_ble_eq_true rfl) ?_
      rw [hq.2] at hP hD
      rw [hq.1]
      dsimp only [Option.toList, List.cons_append, List.nil_append]
      rw [show takB (gS U15) 0 15 10 3 0 5 (nS U15 2).toNat = (-1) by decide +kernel]
      refine lv_iconst (pc := 967) (v := iv (-1)) hx hb dL_harbour_967 rfl ?_
      refine r_icmp_ne (pc := 968) (a := (-1)) (b := (-1)) hx hb dL_harbour_968 (tgt := 1127) (by decide) ⟨by omega, by omega⟩ ⟨by omega, by omega⟩ (fun c_968 => ?_) (fun c_968 => ?_)
      · exact absurd c_968 (by decide)
      · have c_968_ := c_968
        refine lv_aload_n (pc := 971) hx hb dL_harbour_971 rfl (lv_at hl 0 rfl) ?_
        refine lv_iconst (pc := 972) (v := iv 0) hx hb dL_harbour_972 rfl ?_
        refine lv_bipush (pc := 973) (v := iv 15) hx hb dL_harbour_973 (by decide) ?_
        refine lv_bipush (pc := 975) (v := iv 10) hx hb dL_harbour_975 (by decide) ?_
        refine lv_iconst (pc := 977) (v := iv 3) hx hb dL_harbour_977 rfl ?_
        refine lv_iconst (pc := 978) (v := iv 3) hx hb dL_harbour_978 rfl ?_
        refine lv_iconst (pc := 979) (v := iv 2) hx hb dL_harbour_979 rfl ?_
        refine c_callV (pc := 980) (y := yX4_taken) (As := [.int (iv 0), .int (iv 15), .int (iv 10), .int (iv 3), .int (iv 3), .int (iv 2)]) (rest := []) hC hE hP hD hS hl.1 (K_taken l ε hst hH 0 15 10 3 3 2 (by decide +kernel) (by decide +kernel) (by decide +kernel) (by decide +kernel) (by decide +kernel)) m_15_15 m_15_16 m_15_17 m_0_2 m_15_18 hob rfl hd_yX4_taken rfl ⟨⟨by decide, by decide⟩, (Nat.le_of_ble_eq_true rfl), (Nat.le_of_ble_eq_true rfl)⟩ (Nat.le_of_ble_eq_true rfl) rfl dL_harbour_980 kxN (fun v w_4 H locs hq hP hD hS => ?_)
        refine W.widen (k := 2211) (n := 211248) (Nat.le_of_ble_eq_true rfl) (Nat.le_of_ble_eq_true rfl) ?_
        rw [hq.2] at hP hD
        rw [hq.1]
        dsimp only [Option.toList, List.cons_append, List.nil_append]
        rw [show takB (gS U15) 0 15 10 3 3 2 (nS U15 2).toNat = (-2) by decide +kernel]
        refine lv_bipush (pc := 983) (v := iv (-2)) hx hb dL_harbour_983 (by decide) ?_
        refine r_icmp_ne (pc := 985) (a := (-2)) (b := (-2)) hx hb dL_harbour_985 (tgt := 1127) (by decide) ⟨by omega, by omega⟩ ⟨by omega, by omega⟩ (fun c_985 => ?_) (fun c_985 => ?_)
        · exact absurd c_985 (by decide)
        · have c_985_ := c_985
          refine W.widen (k := 2211) (n := 211248) (Nat.le_of_ble_eq_true rfl) (Nat.le_of_ble_eq_true rfl) ?_
          exact hnx _ _ _ _ _ _ _ _ _ hC hE hQ _ _ _ _ hH hP hD hS (lv_sub hl [0] rfl)
set_option maxRecDepth 100000 in
set_option maxHeartbeats 8000000 in
theorem sU_18 (l : Launch) (ε : EV) (hst : l.stackTraces = false) {x : Nat}  (hnx : SEG l ε yL_harbour cL_harbour 1 rm_A_harbour (fun v z => v = some (.int (iv 1))) 1044 2237 214560 [(0, .ref x)] (fun z => HC ε x U16 z)) : SEG l ε yL_harbour cL_harbour 1 rm_A_harbour (fun v z => v = some (.int (iv 1))) 988 2211 211248 [(0, .ref x)] (fun z => HC ε x U15 z) := by
  intro p9 e9 s9 m9 a9 bl9 me9 c9 Q9 hC hE hQ H locs ls w9 hH hP hD hS hl
  have hx := hC.1
  have hb := hC.2.1
  have hK := hE.K
  obtain ⟨fo, hob⟩ := hH.ob
  refine lv_aload_n (pc := 988) hx hb dL_harbour_988 rfl (lv_at hl 0 rfl) ?_
  refine lv_iconst (pc := 989) (v := iv 3) hx hb dL_harbour_989 rfl ?_
  refine lv_iconst (pc := 990) (v := iv 1) hx hb dL_harbour_990 rfl ?_
  refine c_callV (pc := 991) (y := yX4_fail) (As := [.int (iv 3), .int (iv 1)]) (rest := []) hC hE hP hD hS hl.1 (K_fail l ε hst hH 3 1 (by decide +kernel) (by decide +kernel) (by decide +kernel) (by decide +kernel)) m_10_17 m_10_18 m_10_19 m_0_2 m_10_20 hob rfl hd_yX4_fail rfl ⟨⟨by decide, by decide⟩, (Nat.le_of_ble_eq_true rfl), (Nat.le_of_ble_eq_true rfl)⟩ (Nat.le_of_ble_eq_true rfl) rfl dL_harbour_991 kxN (fun v w_1 H locs hq hP hD hS => ?_)
  refine W.widen (k := 2219) (n := 212348) (Nat.le_of_ble_eq_true rfl) (Nat.le_of_ble_eq_true rfl) ?_
  have hH : HC ε x U16 w_1 := hq.2.cv (S := U16) (by decide +kernel)
  obtain ⟨fo, hob⟩ := hH.ob
  rw [hq.1]
  dsimp only [Option.toList, List.cons_append, List.nil_append]
  rw [show nS U15 3 = 8 by decide +kernel]
  refine lv_bipush (pc := 994) (v := iv 8) hx hb dL_harbour_994 (by decide) ?_
  refine r_icmp_ne (pc := 996) (a := 8) (b := 8) hx hb dL_harbour_996 (tgt := 1127) (by decide) ⟨by omega, by omega⟩ ⟨by omega, by omega⟩ (fun c_996 => ?_) (fun c_996 => ?_)
  · exact absurd c_996 (by decide)
  · have c_996_ := c_996
    refine lv_aload_n (pc := 999) hx hb dL_harbour_999 rfl (lv_at hl 0 rfl) ?_
    refine lv_bipush (pc := 1000) (v := iv 6) hx hb dL_harbour_1000 (by decide) ?_
    refine lv_iconst (pc := 1002) (v := iv 3) hx hb dL_harbour_1002 rfl ?_
    refine lv_iconst (pc := 1003) (v := iv 1) hx hb dL_harbour_1003 rfl ?_
    refine lv_iconst (pc := 1004) (v := iv 0) hx hb dL_harbour_1004 rfl ?_
    refine c_callSW (pc := 1005) (y := yL_act) (As := [.ref x, .int (iv 6), .int (iv 3), .int (iv 1), .int (iv 0)]) (rest := []) hC hE hP hD hS hl.1 (A_fail1_is l ε hst hH 3 0 (by decide) (by decide) (by decide +kernel) (by decide +kernel)) m_4_18 m_4_19 m_0_5 m_4_20 hd_yL_act rfl ⟨⟨by decide, by decide⟩, (Nat.le_of_ble_eq_true rfl), (Nat.le_of_ble_eq_true rfl)⟩ (Nat.le_of_ble_eq_true rfl) rfl dL_harbour_1005 kxN (fun v w_2 H locs hq hP hD hS => ?_)
    refine W.widen (k := 2227) (n := 213448) (Nat.le_of_ble_eq_true rfl) (Nat.le_of_ble_eq_true rfl) ?_
    rw [hq.2] at hP hD
    rw [hq.1]
    dsimp only [Option.toList, List.cons_append, List.nil_append]
    refine lv_bipush (pc := 1008) (v := iv (-73)) hx hb dL_harbour_1008 (by decide) ?_
    refine r_icmp_ne (pc := 1010) (a := (-73)) (b := (-73)) hx hb dL_harbour_1010 (tgt := 1127) (by decide) ⟨by omega, by omega⟩ ⟨by omega, by omega⟩ (fun c_1010 => ?_) (fun c_1010 => ?_)
    · exact absurd c_1010 (by decide)
    · have c_1010_ := c_1010
      refine lv_aload_n (pc := 1013) hx hb dL_harbour_1013 rfl (lv_at hl 0 rfl) ?_
      refine lv_bipush (pc := 1014) (v := iv 6) hx hb dL_harbour_1014 (by decide) ?_
      refine lv_iconst (pc := 1016) (v := iv 2) hx hb dL_harbour_1016 rfl ?_
      refine lv_iconst (pc := 1017) (v := iv 0) hx hb dL_harbour_1017 rfl ?_
      refine lv_iconst (pc := 1018) (v := iv 0) hx hb dL_harbour_1018 rfl ?_
      refine c_callSW (pc := 1019) (y := yL_act) (As := [.ref x, .int (iv 6), .int (iv 2), .int (iv 0), .int (iv 0)]) (rest := []) hC hE hP hD hS hl.1 (A_fail0_is l ε hst hH 2 0 (by decide) (by decide) (by decide +kernel) (by decide +kernel)) m_4_18 m_4_19 m_0_5 m_4_20 hd_yL_act rfl ⟨⟨by decide, by decide⟩, (Nat.le_of_ble_eq_true rfl), (Nat.le_of_ble_eq_true rfl)⟩ (Nat.le_of_ble_eq_true rfl) rfl dL_harbour_1019 kxN (fun v w_3 H locs hq hP hD hS => ?_)
      refine W.widen (k := 2235) (n := 214548) (Nat.le_of_ble_eq_true rfl) (Nat.le_of_ble_eq_true rfl) ?_
      rw [hq.2] at hP hD
      rw [hq.1]
      dsimp only [Option.toList, List.cons_append, List.nil_append]
      refine lv_bipush (pc := 1022) (v := iv (-73)) hx hb dL_harbour_1022 (by decide) ?_
      refine r_icmp_ne (pc := 1024) (a := (-73)) (b := (-73)) hx hb dL_harbour_1024 (tgt := 1127) (by decide) ⟨by omega, by omega⟩ ⟨by omega, by omega⟩ (fun c_1024 => ?_) (fun c_1024 => ?_)
      · exact absurd c_1024 (by decide)
      · have c_1024_ := c_1024
        refine lv_aload_n (pc := 1027) hx hb dL_harbour_1027 rfl (lv_at hl 0 rfl) ?_
        refine lv_iconst (pc := 1028) (v := iv 3) hx hb dL_harbour_1028 rfl ?_
        refine lv_iconst (pc := 1029) (v := iv 0) hx hb dL_harbour_1029 rfl ?_
        refine c_callV (pc := 1030) (y := yX4_shines) (As := [.int (iv 3), .int (iv 0)]) (rest := []) hC hE hP hD hS hl.1 (K_shines l ε hst hH 3 0 (by decide +kernel) (by decide +kernel)) m_10_21 m_10_22 m_10_23 m_0_2 m_10_24 hob rfl hd_yX4_shines rfl ⟨⟨by decide, by decide⟩, (Nat.le_of_ble_eq_true rfl), (Nat.le_of_ble_eq_true rfl)⟩ (Nat.le_of_ble_eq_true rfl) rfl dL_harbour_1030 kxN (fun v w_4 H locs hq hP hD hS => ?_)
        refine W.widen (k := 2237) (n := 214560) (Nat.le_of_ble_eq_true rfl) (Nat.le_of_ble_eq_true rfl) ?_
        rw [hq.2] at hP hD
        rw [hq.1]
        dsimp only [Option.toList, List.cons_append, List.nil_append]
        rw [show bz (ON (gS U16) 3 0) = 0 by decide +kernel]
        refine r_if_ne (pc := 1033) (a := 0) hx hb dL_harbour_1033 (tgt := 1127) (by decide) ⟨by omega, by omega⟩ (fun c_1033 => ?_) (fun c_1033 => ?_)
        · exact absurd c_1033 (by decide)
        · have c_1033_ := c_1033
          refine lv_aload_n (pc := 1036) hx hb dL_harbour_1036 rfl (lv_at hl 0 rfl) ?_
          refine c_callV (pc := 1037) (y := yX4_clashes) (As := []) (rest := []) hC hE hP hD hS hl.1 (K_clashes l ε hst hH  ) m_2_8 m_2_9 m_2_10 m_0_2 m_2_11 hob rfl hd_yX4_clashes rfl ⟨⟨by decide, by decide⟩, (Nat.le_of_ble_eq_true rfl), (Nat.le_of_ble_eq_true rfl)⟩ (Nat.le_of_ble_eq_true rfl) rfl dL_harbour_1037 kxN (fun v w_5 H locs hq hP hD hS => ?_)
          refine W.widen (k := 2237) (n := 214560) (Nat.le_of_ble_eq_true rfl) (Nat.le_of_ble_eq_true rfl) ?_
          rw [hq.2] at hP hD
          rw [hq.1]
          dsimp only [Option.toList, List.cons_append, List.nil_append]
          rw [show clcB (gS U16) (nS U16 2).toNat = 2 by decide +kernel]
          refine lv_iconst (pc := 1040) (v := iv 2) hx hb dL_harbour_1040 rfl ?_
          refine r_icmp_ne (pc := 1041) (a := 2) (b := 2) hx hb dL_harbour_1041 (tgt := 1127) (by decide) ⟨by omega, by omega⟩ ⟨by omega, by omega⟩ (fun c_1041 => ?_) (fun c_1041 => ?_)
          · exact absurd c_1041 (by decide)
          · have c_1041_ := c_1041
            refine W.widen (k := 2237) (n := 214560) (Nat.le_of_ble_eq_true rfl) (Nat.le_of_ble_eq_true rfl) ?_
            exact hnx _ _ _ _ _ _ _ _ _ hC hE hQ _ _ _ _ hH hP hD hS (lv_sub hl [0] rfl)
set_option maxRecDepth 100000 in
set_option maxHeartbeats 8000000 in
theorem sU_19 (l : Launch) (ε : EV) (hst : l.stackTraces = false) {x : Nat}  (hnx : SEG l ε yL_harbour cL_harbour 1 rm_A_harbour (fun v z => v = some (.int (iv 1))) 1111 2261 214704 [(0, .ref x)] (fun z => HC ε x U16 z)) : SEG l ε yL_harbour cL_harbour 1 rm_A_harbour (fun v z => v = some (.int (iv 1))) 1044 2237 214560 [(0, .ref x)] (fun z => HC ε x U16 z) := by
  intro p9 e9 s9 m9 a9 bl9 me9 c9 Q9 hC hE hQ H locs ls w9 hH hP hD hS hl
  have hx := hC.1
  have hb := hC.2.1
  have hK := hE.K
  obtain ⟨fo, hob⟩ := hH.ob
  refine lv_aload_n (pc := 1044) hx hb dL_harbour_1044 rfl (lv_at hl 0 rfl) ?_
  refine lv_iconst (pc := 1045) (v := iv 1) hx hb dL_harbour_1045 rfl ?_
  refine lv_bipush (pc := 1046) (v := iv 20) hx hb dL_harbour_1046 (by decide) ?_
  refine lv_bipush (pc := 1048) (v := iv 10) hx hb dL_harbour_1048 (by decide) ?_
  refine lv_iconst (pc := 1050) (v := iv 3) hx hb dL_harbour_1050 rfl ?_
  refine lv_iconst (pc := 1051) (v := iv 0) hx hb dL_harbour_1051 rfl ?_
  refine lv_iconst (pc := 1052) (v := iv 2) hx hb dL_harbour_1052 rfl ?_
  refine c_callV (pc := 1053) (y := yX4_taken) (As := [.int (iv 1), .int (iv 20), .int (iv 10), .int (iv 3), .int (iv 0), .int (iv 2)]) (rest := []) hC hE hP hD hS hl.1 (K_taken l ε hst hH 1 20 10 3 0 2 (by decide +kernel) (by decide +kernel) (by decide +kernel) (by decide +kernel) (by decide +kernel)) m_15_15 m_15_16 m_15_17 m_0_2 m_15_18 hob rfl hd_yX4_taken rfl ⟨⟨by decide, by decide⟩, (Nat.le_of_ble_eq_true rfl), (Nat.le_of_ble_eq_true rfl)⟩ (Nat.le_of_ble_eq_true rfl) rfl dL_harbour_1053 kxN (fun v w_1 H locs hq hP hD hS => ?_)
  refine W.widen (k := 2243) (n := 214596) (Nat.le_of_ble_eq_true rfl) (Nat.le_of_ble_eq_true rfl) ?_
  rw [hq.2] at hP hD
  rw [hq.1]
  dsimp only [Option.toList, List.cons_append, List.nil_append]
  rw [show takB (gS U16) 1 20 10 3 0 2 (nS U16 2).toNat = (-2) by decide +kernel]
  refine lv_bipush (pc := 1056) (v := iv (-2)) hx hb dL_harbour_1056 (by decide) ?_
  refine r_icmp_ne (pc := 1058) (a := (-2)) (b := (-2)) hx hb dL_harbour_1058 (tgt := 1127) (by decide) ⟨by omega, by omega⟩ ⟨by omega, by omega⟩ (fun c_1058 => ?_) (fun c_1058 => ?_)
  · exact absurd c_1058 (by decide)
  · have c_1058_ := c_1058
    refine lv_aload_n (pc := 1061) hx hb dL_harbour_1061 rfl (lv_at hl 0 rfl) ?_
    refine lv_iconst (pc := 1062) (v := iv 1) hx hb dL_harbour_1062 rfl ?_
    refine lv_bipush (pc := 1063) (v := iv 22) hx hb dL_harbour_1063 (by decide) ?_
    refine lv_bipush (pc := 1065) (v := iv 10) hx hb dL_harbour_1065 (by decide) ?_
    refine lv_iconst (pc := 1067) (v := iv 3) hx hb dL_harbour_1067 rfl ?_
    refine lv_iconst (pc := 1068) (v := iv 0) hx hb dL_harbour_1068 rfl ?_
    refine lv_iconst (pc := 1069) (v := iv 3) hx hb dL_harbour_1069 rfl ?_
    refine c_callV (pc := 1070) (y := yX4_taken) (As := [.int (iv 1), .int (iv 22), .int (iv 10), .int (iv 3), .int (iv 0), .int (iv 3)]) (rest := []) hC hE hP hD hS hl.1 (K_taken l ε hst hH 1 22 10 3 0 3 (by decide +kernel) (by decide +kernel) (by decide +kernel) (by decide +kernel) (by decide +kernel)) m_15_15 m_15_16 m_15_17 m_0_2 m_15_18 hob rfl hd_yX4_taken rfl ⟨⟨by decide, by decide⟩, (Nat.le_of_ble_eq_true rfl), (Nat.le_of_ble_eq_true rfl)⟩ (Nat.le_of_ble_eq_true rfl) rfl dL_harbour_1070 kxN (fun v w_2 H locs hq hP hD hS => ?_)
    refine W.widen (k := 2249) (n := 214632) (Nat.le_of_ble_eq_true rfl) (Nat.le_of_ble_eq_true rfl) ?_
    rw [hq.2] at hP hD
    rw [hq.1]
    dsimp only [Option.toList, List.cons_append, List.nil_append]
    rw [show takB (gS U16) 1 22 10 3 0 3 (nS U16 2).toNat = 1 by decide +kernel]
    refine lv_iconst (pc := 1073) (v := iv 1) hx hb dL_harbour_1073 rfl ?_
    refine r_icmp_ne (pc := 1074) (a := 1) (b := 1) hx hb dL_harbour_1074 (tgt := 1127) (by decide) ⟨by omega, by omega⟩ ⟨by omega, by omega⟩ (fun c_1074 => ?_) (fun c_1074 => ?_)
    · exact absurd c_1074 (by decide)
    · have c_1074_ := c_1074
      refine lv_aload_n (pc := 1077) hx hb dL_harbour_1077 rfl (lv_at hl 0 rfl) ?_
      refine lv_iconst (pc := 1078) (v := iv 1) hx hb dL_harbour_1078 rfl ?_
      refine lv_bipush (pc := 1079) (v := iv 22) hx hb dL_harbour_1079 (by decide) ?_
      refine lv_bipush (pc := 1081) (v := iv 15) hx hb dL_harbour_1081 (by decide) ?_
      refine lv_iconst (pc := 1083) (v := iv 3) hx hb dL_harbour_1083 rfl ?_
      refine lv_bipush (pc := 1084) (v := iv 7) hx hb dL_harbour_1084 (by decide) ?_
      refine lv_iconst (pc := 1086) (v := iv 4) hx hb dL_harbour_1086 rfl ?_
      refine c_callV (pc := 1087) (y := yX4_taken) (As := [.int (iv 1), .int (iv 22), .int (iv 15), .int (iv 3), .int (iv 7), .int (iv 4)]) (rest := []) hC hE hP hD hS hl.1 (K_taken l ε hst hH 1 22 15 3 7 4 (by decide +kernel) (by decide +kernel) (by decide +kernel) (by decide +kernel) (by decide +kernel)) m_15_15 m_15_16 m_15_17 m_0_2 m_15_18 hob rfl hd_yX4_taken rfl ⟨⟨by decide, by decide⟩, (Nat.le_of_ble_eq_true rfl), (Nat.le_of_ble_eq_true rfl)⟩ (Nat.le_of_ble_eq_true rfl) rfl dL_harbour_1087 kxN (fun v w_3 H locs hq hP hD hS => ?_)
      refine W.widen (k := 2255) (n := 214668) (Nat.le_of_ble_eq_true rfl) (Nat.le_of_ble_eq_true rfl) ?_
      rw [hq.2] at hP hD
      rw [hq.1]
      dsimp only [Option.toList, List.cons_append, List.nil_append]
      rw [show takB (gS U16) 1 22 15 3 7 4 (nS U16 2).toNat = (-1) by decide +kernel]
      refine lv_iconst (pc := 1090) (v := iv (-1)) hx hb dL_harbour_1090 rfl ?_
      refine r_icmp_ne (pc := 1091) (a := (-1)) (b := (-1)) hx hb dL_harbour_1091 (tgt := 1127) (by decide) ⟨by omega, by omega⟩ ⟨by omega, by omega⟩ (fun c_1091 => ?_) (fun c_1091 => ?_)
      · exact absurd c_1091 (by decide)
      · have c_1091_ := c_1091
        refine lv_aload_n (pc := 1094) hx hb dL_harbour_1094 rfl (lv_at hl 0 rfl) ?_
        refine lv_iconst (pc := 1095) (v := iv 1) hx hb dL_harbour_1095 rfl ?_
        refine lv_bipush (pc := 1096) (v := iv 22) hx hb dL_harbour_1096 (by decide) ?_
        refine lv_bipush (pc := 1098) (v := iv 12) hx hb dL_harbour_1098 (by decide) ?_
        refine lv_iconst (pc := 1100) (v := iv 1) hx hb dL_harbour_1100 rfl ?_
        refine lv_iconst (pc := 1101) (v := iv 0) hx hb dL_harbour_1101 rfl ?_
        refine lv_iconst (pc := 1102) (v := iv 3) hx hb dL_harbour_1102 rfl ?_
        refine c_callV (pc := 1103) (y := yX4_taken) (As := [.int (iv 1), .int (iv 22), .int (iv 12), .int (iv 1), .int (iv 0), .int (iv 3)]) (rest := []) hC hE hP hD hS hl.1 (K_taken l ε hst hH 1 22 12 1 0 3 (by decide +kernel) (by decide +kernel) (by decide +kernel) (by decide +kernel) (by decide +kernel)) m_15_15 m_15_16 m_15_17 m_0_2 m_15_18 hob rfl hd_yX4_taken rfl ⟨⟨by decide, by decide⟩, (Nat.le_of_ble_eq_true rfl), (Nat.le_of_ble_eq_true rfl)⟩ (Nat.le_of_ble_eq_true rfl) rfl dL_harbour_1103 kxN (fun v w_4 H locs hq hP hD hS => ?_)
        refine W.widen (k := 2261) (n := 214704) (Nat.le_of_ble_eq_true rfl) (Nat.le_of_ble_eq_true rfl) ?_
        rw [hq.2] at hP hD
        rw [hq.1]
        dsimp only [Option.toList, List.cons_append, List.nil_append]
        rw [show takB (gS U16) 1 22 12 1 0 3 (nS U16 2).toNat = (-2) by decide +kernel]
        refine lv_bipush (pc := 1106) (v := iv (-2)) hx hb dL_harbour_1106 (by decide) ?_
        refine r_icmp_ne (pc := 1108) (a := (-2)) (b := (-2)) hx hb dL_harbour_1108 (tgt := 1127) (by decide) ⟨by omega, by omega⟩ ⟨by omega, by omega⟩ (fun c_1108 => ?_) (fun c_1108 => ?_)
        · exact absurd c_1108 (by decide)
        · have c_1108_ := c_1108
          refine W.widen (k := 2261) (n := 214704) (Nat.le_of_ble_eq_true rfl) (Nat.le_of_ble_eq_true rfl) ?_
          exact hnx _ _ _ _ _ _ _ _ _ hC hE hQ _ _ _ _ hH hP hD hS (lv_sub hl [0] rfl)
set_option maxRecDepth 100000 in
set_option maxHeartbeats 8000000 in
theorem sU_20 (l : Launch) (ε : EV) (hst : l.stackTraces = false) {x : Nat}  (hnx : SEG l ε yL_harbour cL_harbour 1 rm_A_harbour (fun v z => v = some (.int (iv 1))) 1159 2274 214784 [(0, .ref x)] (fun z => HC ε x U17 z)) : SEG l ε yL_harbour cL_harbour 1 rm_A_harbour (fun v z => v = some (.int (iv 1))) 1111 2261 214704 [(0, .ref x)] (fun z => HC ε x U16 z) := by
  intro p9 e9 s9 m9 a9 bl9 me9 c9 Q9 hC hE hQ H locs ls w9 hH hP hD hS hl
  have hx := hC.1
  have hb := hC.2.1
  have hK := hE.K
  obtain ⟨fo, hob⟩ := hH.ob
  refine lv_aload_n (pc := 1111) hx hb dL_harbour_1111 rfl (lv_at hl 0 rfl) ?_
  refine lv_iconst (pc := 1112) (v := iv 1) hx hb dL_harbour_1112 rfl ?_
  refine lv_bipush (pc := 1113) (v := iv 22) hx hb dL_harbour_1113 (by decide) ?_
  refine lv_bipush (pc := 1115) (v := iv 12) hx hb dL_harbour_1115 (by decide) ?_
  refine lv_iconst (pc := 1117) (v := iv 1) hx hb dL_harbour_1117 rfl ?_
  refine lv_iconst (pc := 1118) (v := iv 0) hx hb dL_harbour_1118 rfl ?_
  refine lv_iconst (pc := 1119) (v := iv 5) hx hb dL_harbour_1119 rfl ?_
  refine c_callV (pc := 1120) (y := yX4_taken) (As := [.int (iv 1), .int (iv 22), .int (iv 12), .int (iv 1), .int (iv 0), .int (iv 5)]) (rest := []) hC hE hP hD hS hl.1 (K_taken l ε hst hH 1 22 12 1 0 5 (by decide +kernel) (by decide +kernel) (by decide +kernel) (by decide +kernel) (by decide +kernel)) m_15_15 m_15_16 m_15_17 m_0_2 m_15_18 hob rfl hd_yX4_taken rfl ⟨⟨by decide, by decide⟩, (Nat.le_of_ble_eq_true rfl), (Nat.le_of_ble_eq_true rfl)⟩ (Nat.le_of_ble_eq_true rfl) rfl dL_harbour_1120 kxN (fun v w_1 H locs hq hP hD hS => ?_)
  refine W.widen (k := 2267) (n := 214740) (Nat.le_of_ble_eq_true rfl) (Nat.le_of_ble_eq_true rfl) ?_
  rw [hq.2] at hP hD
  rw [hq.1]
  dsimp only [Option.toList, List.cons_append, List.nil_append]
  rw [show takB (gS U16) 1 22 12 1 0 5 (nS U16 2).toNat = 1 by decide +kernel]
  refine lv_iconst (pc := 1123) (v := iv 1) hx hb dL_harbour_1123 rfl ?_
  refine r_icmp_eq (pc := 1124) (a := 1) (b := 1) hx hb dL_harbour_1124 (tgt := 1129) (by decide) ⟨by omega, by omega⟩ ⟨by omega, by omega⟩ (fun c_1124 => ?_) (fun c_1124 => ?_)
  · have c_1124_ := c_1124
    refine lv_aload_n (pc := 1129) hx hb dL_harbour_1129 rfl (lv_at hl 0 rfl) ?_
    refine lv_iconst (pc := 1130) (v := iv 1) hx hb dL_harbour_1130 rfl ?_
    refine lv_iconst (pc := 1131) (v := iv 3) hx hb dL_harbour_1131 rfl ?_
    refine c_callV (pc := 1132) (y := yX4_shown) (As := [.int (iv 1), .int (iv 3)]) (rest := []) hC hE hP hD hS hl.1 (K_shown l ε hst hH 1 3 (by decide +kernel) (by decide +kernel)) m_14_7 m_14_8 m_14_9 m_0_2 m_14_10 hob rfl hd_yX4_shown rfl ⟨⟨by decide, by decide⟩, (Nat.le_of_ble_eq_true rfl), (Nat.le_of_ble_eq_true rfl)⟩ (Nat.le_of_ble_eq_true rfl) rfl dL_harbour_1132 kxN (fun v w_2 H locs hq hP hD hS => ?_)
    refine W.widen (k := 2269) (n := 214752) (Nat.le_of_ble_eq_true rfl) (Nat.le_of_ble_eq_true rfl) ?_
    rw [hq.2] at hP hD
    rw [hq.1]
    dsimp only [Option.toList, List.cons_append, List.nil_append]
    rw [show gS U16 13 (12 * 1 + 3 : Int).toNat = 2 by decide +kernel]
    refine lv_iconst (pc := 1135) (v := iv 2) hx hb dL_harbour_1135 rfl ?_
    refine r_icmp_ne (pc := 1136) (a := 2) (b := 2) hx hb dL_harbour_1136 (tgt := 1341) (by decide) ⟨by omega, by omega⟩ ⟨by omega, by omega⟩ (fun c_1136 => ?_) (fun c_1136 => ?_)
    · exact absurd c_1136 (by decide)
    · have c_1136_ := c_1136
      refine lv_aload_n (pc := 1139) hx hb dL_harbour_1139 rfl (lv_at hl 0 rfl) ?_
      refine lv_iconst (pc := 1140) (v := iv 1) hx hb dL_harbour_1140 rfl ?_
      refine lv_iconst (pc := 1141) (v := iv 1) hx hb dL_harbour_1141 rfl ?_
      refine c_callV (pc := 1142) (y := yX4_correct) (As := [.int (iv 1), .int (iv 1)]) (rest := []) hC hE hP hD hS hl.1 (K_correct l ε hst hH 1 1 (by decide +kernel) (by decide +kernel)) m_13_15 m_13_16 m_13_17 m_0_2 m_13_18 hob rfl hd_yX4_correct rfl ⟨⟨by decide, by decide⟩, (Nat.le_of_ble_eq_true rfl), (Nat.le_of_ble_eq_true rfl)⟩ (Nat.le_of_ble_eq_true rfl) rfl dL_harbour_1142 kxN (fun v w_3 H locs hq hP hD hS => ?_)
      refine W.widen (k := 2272) (n := 214772) (Nat.le_of_ble_eq_true rfl) (Nat.le_of_ble_eq_true rfl) ?_
      have hH : HC ε x U17 w_3 := hq.2.cv (S := U17) (by decide +kernel)
      obtain ⟨fo, hob⟩ := hH.ob
      rw [hq.1]
      dsimp only [Option.toList, List.cons_append, List.nil_append]
      rw [show mn 1 (nS U16 3 - gS U16 12 (1 : Int).toNat) = 1 by decide +kernel]
      refine lv_iconst (pc := 1145) (v := iv 1) hx hb dL_harbour_1145 rfl ?_
      refine r_icmp_ne (pc := 1146) (a := 1) (b := 1) hx hb dL_harbour_1146 (tgt := 1341) (by decide) ⟨by omega, by omega⟩ ⟨by omega, by omega⟩ (fun c_1146 => ?_) (fun c_1146 => ?_)
      · exact absurd c_1146 (by decide)
      · have c_1146_ := c_1146
        refine lv_aload_n (pc := 1149) hx hb dL_harbour_1149 rfl (lv_at hl 0 rfl) ?_
        refine lv_iconst (pc := 1150) (v := iv 1) hx hb dL_harbour_1150 rfl ?_
        refine lv_iconst (pc := 1151) (v := iv 3) hx hb dL_harbour_1151 rfl ?_
        refine c_callV (pc := 1152) (y := yX4_shown) (As := [.int (iv 1), .int (iv 3)]) (rest := []) hC hE hP hD hS hl.1 (K_shown l ε hst hH 1 3 (by decide +kernel) (by decide +kernel)) m_14_7 m_14_8 m_14_9 m_0_2 m_14_10 hob rfl hd_yX4_shown rfl ⟨⟨by decide, by decide⟩, (Nat.le_of_ble_eq_true rfl), (Nat.le_of_ble_eq_true rfl)⟩ (Nat.le_of_ble_eq_true rfl) rfl dL_harbour_1152 kxN (fun v w_4 H locs hq hP hD hS => ?_)
        refine W.widen (k := 2274) (n := 214784) (Nat.le_of_ble_eq_true rfl) (Nat.le_of_ble_eq_true rfl) ?_
        rw [hq.2] at hP hD
        rw [hq.1]
        dsimp only [Option.toList, List.cons_append, List.nil_append]
        rw [show gS U17 13 (12 * 1 + 3 : Int).toNat = (-1) by decide +kernel]
        refine lv_iconst (pc := 1155) (v := iv (-1)) hx hb dL_harbour_1155 rfl ?_
        refine r_icmp_ne (pc := 1156) (a := (-1)) (b := (-1)) hx hb dL_harbour_1156 (tgt := 1341) (by decide) ⟨by omega, by omega⟩ ⟨by omega, by omega⟩ (fun c_1156 => ?_) (fun c_1156 => ?_)
        · exact absurd c_1156 (by decide)
        · have c_1156_ := c_1156
          refine W.widen (k := 2274) (n := 214784) (Nat.le_of_ble_eq_true rfl) (Nat.le_of_ble_eq_true rfl) ?_
          exact hnx _ _ _ _ _ _ _ _ _ hC hE hQ _ _ _ _ hH hP hD hS (lv_sub hl [0] rfl)
  · exact absurd c_1124 (by decide)
set_option maxRecDepth 100000 in
set_option maxHeartbeats 8000000 in
theorem sU_21 (l : Launch) (ε : EV) (hst : l.stackTraces = false) {x : Nat}  (hnx : SEG l ε yL_harbour cL_harbour 1 rm_A_harbour (fun v z => v = some (.int (iv 1))) 1208 2293 215952 [(0, .ref x)] (fun z => HC ε x U19 z)) : SEG l ε yL_harbour cL_harbour 1 rm_A_harbour (fun v z => v = some (.int (iv 1))) 1159 2274 214784 [(0, .ref x)] (fun z => HC ε x U17 z) := by
  intro p9 e9 s9 m9 a9 bl9 me9 c9 Q9 hC hE hQ H locs ls w9 hH hP hD hS hl
  have hx := hC.1
  have hb := hC.2.1
  have hK := hE.K
  obtain ⟨fo, hob⟩ := hH.ob
  refine lv_aload_n (pc := 1159) hx hb dL_harbour_1159 rfl (lv_at hl 0 rfl) ?_
  refine lv_iconst (pc := 1160) (v := iv 1) hx hb dL_harbour_1160 rfl ?_
  refine lv_bipush (pc := 1161) (v := iv 20) hx hb dL_harbour_1161 (by decide) ?_
  refine lv_bipush (pc := 1163) (v := iv 10) hx hb dL_harbour_1163 (by decide) ?_
  refine lv_iconst (pc := 1165) (v := iv 3) hx hb dL_harbour_1165 rfl ?_
  refine lv_iconst (pc := 1166) (v := iv 0) hx hb dL_harbour_1166 rfl ?_
  refine lv_iconst (pc := 1167) (v := iv 2) hx hb dL_harbour_1167 rfl ?_
  refine c_callV (pc := 1168) (y := yX4_taken) (As := [.int (iv 1), .int (iv 20), .int (iv 10), .int (iv 3), .int (iv 0), .int (iv 2)]) (rest := []) hC hE hP hD hS hl.1 (K_taken l ε hst hH 1 20 10 3 0 2 (by decide +kernel) (by decide +kernel) (by decide +kernel) (by decide +kernel) (by decide +kernel)) m_15_15 m_15_16 m_15_17 m_0_2 m_15_18 hob rfl hd_yX4_taken rfl ⟨⟨by decide, by decide⟩, (Nat.le_of_ble_eq_true rfl), (Nat.le_of_ble_eq_true rfl)⟩ (Nat.le_of_ble_eq_true rfl) rfl dL_harbour_1168 kxN (fun v w_1 H locs hq hP hD hS => ?_)
  refine W.widen (k := 2280) (n := 214820) (Nat.le_of_ble_eq_true rfl) (Nat.le_of_ble_eq_true rfl) ?_
  rw [hq.2] at hP hD
  rw [hq.1]
  dsimp only [Option.toList, List.cons_append, List.nil_append]
  rw [show takB (gS U17) 1 20 10 3 0 2 (nS U17 2).toNat = 1 by decide +kernel]
  refine lv_iconst (pc := 1171) (v := iv 1) hx hb dL_harbour_1171 rfl ?_
  refine r_icmp_ne (pc := 1172) (a := 1) (b := 1) hx hb dL_harbour_1172 (tgt := 1341) (by decide) ⟨by omega, by omega⟩ ⟨by omega, by omega⟩ (fun c_1172 => ?_) (fun c_1172 => ?_)
  · exact absurd c_1172 (by decide)
  · have c_1172_ := c_1172
    refine lv_aload_n (pc := 1175) hx hb dL_harbour_1175 rfl (lv_at hl 0 rfl) ?_
    refine lv_iconst (pc := 1176) (v := iv 3) hx hb dL_harbour_1176 rfl ?_
    refine lv_iconst (pc := 1177) (v := iv 3) hx hb dL_harbour_1177 rfl ?_
    refine lv_iconst (pc := 1178) (v := iv 0) hx hb dL_harbour_1178 rfl ?_
    refine c_callV (pc := 1179) (y := yX4_change) (As := [.int (iv 3), .int (iv 3), .int (iv 0)]) (rest := []) hC hE hP hD hS hl.1 (K_change l ε hst hH 3 3 0 (by decide +kernel) (by decide +kernel) (by decide +kernel) (by decide +kernel)) m_9_15 m_9_16 m_9_17 m_0_2 m_9_18 hob rfl hd_yX4_change rfl ⟨⟨by decide, by decide⟩, (Nat.le_of_ble_eq_true rfl), (Nat.le_of_ble_eq_true rfl)⟩ (Nat.le_of_ble_eq_true rfl) rfl dL_harbour_1179 kxN (fun v w_2 H locs hq hP hD hS => ?_)
    refine W.widen (k := 2288) (n := 215920) (Nat.le_of_ble_eq_true rfl) (Nat.le_of_ble_eq_true rfl) ?_
    have hH : HC ε x U18 w_2 := hq.2.cv (S := U18) (by decide +kernel)
    obtain ⟨fo, hob⟩ := hH.ob
    rw [hq.1]
    dsimp only [Option.toList, List.cons_append, List.nil_append]
    rw [show nS U17 3 = 9 by decide +kernel]
    refine lv_bipush (pc := 1182) (v := iv 9) hx hb dL_harbour_1182 (by decide) ?_
    refine r_icmp_ne (pc := 1184) (a := 9) (b := 9) hx hb dL_harbour_1184 (tgt := 1341) (by decide) ⟨by omega, by omega⟩ ⟨by omega, by omega⟩ (fun c_1184 => ?_) (fun c_1184 => ?_)
    · exact absurd c_1184 (by decide)
    · have c_1184_ := c_1184
      refine lv_aload_n (pc := 1187) hx hb dL_harbour_1187 rfl (lv_at hl 0 rfl) ?_
      refine lv_iconst (pc := 1188) (v := iv 1) hx hb dL_harbour_1188 rfl ?_
      refine lv_bipush (pc := 1189) (v := iv 100) hx hb dL_harbour_1189 (by decide) ?_
      refine c_callV (pc := 1191) (y := yX4_correct) (As := [.int (iv 1), .int (iv 100)]) (rest := []) hC hE hP hD hS hl.1 (K_correct l ε hst hH 1 100 (by decide +kernel) (by decide +kernel)) m_13_15 m_13_16 m_13_17 m_0_2 m_13_18 hob rfl hd_yX4_correct rfl ⟨⟨by decide, by decide⟩, (Nat.le_of_ble_eq_true rfl), (Nat.le_of_ble_eq_true rfl)⟩ (Nat.le_of_ble_eq_true rfl) rfl dL_harbour_1191 kxN (fun v w_3 H locs hq hP hD hS => ?_)
      refine W.widen (k := 2291) (n := 215940) (Nat.le_of_ble_eq_true rfl) (Nat.le_of_ble_eq_true rfl) ?_
      have hH : HC ε x U19 w_3 := hq.2.cv (S := U19) (by decide +kernel)
      obtain ⟨fo, hob⟩ := hH.ob
      rw [hq.1]
      dsimp only [Option.toList, List.cons_append, List.nil_append]
      rw [show mn 100 (nS U18 3 - gS U18 12 (1 : Int).toNat) = 1 by decide +kernel]
      refine lv_iconst (pc := 1194) (v := iv 1) hx hb dL_harbour_1194 rfl ?_
      refine r_icmp_ne (pc := 1195) (a := 1) (b := 1) hx hb dL_harbour_1195 (tgt := 1341) (by decide) ⟨by omega, by omega⟩ ⟨by omega, by omega⟩ (fun c_1195 => ?_) (fun c_1195 => ?_)
      · exact absurd c_1195 (by decide)
      · have c_1195_ := c_1195
        refine lv_aload_n (pc := 1198) hx hb dL_harbour_1198 rfl (lv_at hl 0 rfl) ?_
        refine lv_iconst (pc := 1199) (v := iv 1) hx hb dL_harbour_1199 rfl ?_
        refine lv_iconst (pc := 1200) (v := iv 3) hx hb dL_harbour_1200 rfl ?_
        refine c_callV (pc := 1201) (y := yX4_shown) (As := [.int (iv 1), .int (iv 3)]) (rest := []) hC hE hP hD hS hl.1 (K_shown l ε hst hH 1 3 (by decide +kernel) (by decide +kernel)) m_14_7 m_14_8 m_14_9 m_0_2 m_14_10 hob rfl hd_yX4_shown rfl ⟨⟨by decide, by decide⟩, (Nat.le_of_ble_eq_true rfl), (Nat.le_of_ble_eq_true rfl)⟩ (Nat.le_of_ble_eq_true rfl) rfl dL_harbour_1201 kxN (fun v w_4 H locs hq hP hD hS => ?_)
        refine W.widen (k := 2293) (n := 215952) (Nat.le_of_ble_eq_true rfl) (Nat.le_of_ble_eq_true rfl) ?_
        rw [hq.2] at hP hD
        rw [hq.1]
        dsimp only [Option.toList, List.cons_append, List.nil_append]
        rw [show gS U19 13 (12 * 1 + 3 : Int).toNat = (-1) by decide +kernel]
        refine lv_iconst (pc := 1204) (v := iv (-1)) hx hb dL_harbour_1204 rfl ?_
        refine r_icmp_ne (pc := 1205) (a := (-1)) (b := (-1)) hx hb dL_harbour_1205 (tgt := 1341) (by decide) ⟨by omega, by omega⟩ ⟨by omega, by omega⟩ (fun c_1205 => ?_) (fun c_1205 => ?_)
        · exact absurd c_1205 (by decide)
        · have c_1205_ := c_1205
          refine W.widen (k := 2293) (n := 215952) (Nat.le_of_ble_eq_true rfl) (Nat.le_of_ble_eq_true rfl) ?_
          exact hnx _ _ _ _ _ _ _ _ _ hC hE hQ _ _ _ _ hH hP hD hS (lv_sub hl [0] rfl)
set_option maxRecDepth 100000 in
set_option maxHeartbeats 8000000 in
theorem sU_22 (l : Launch) (ε : EV) (hst : l.stackTraces = false) {x : Nat}  (hnx : SEG l ε yL_harbour cL_harbour 1 rm_A_harbour (fun v z => v = some (.int (iv 1))) 1257 2312 218196 [(0, .ref x)] (fun z => HC ε x U22 z)) : SEG l ε yL_harbour cL_harbour 1 rm_A_harbour (fun v z => v = some (.int (iv 1))) 1208 2293 215952 [(0, .ref x)] (fun z => HC ε x U19 z) := by
  intro p9 e9 s9 m9 a9 bl9 me9 c9 Q9 hC hE hQ H locs ls w9 hH hP hD hS hl
  have hx := hC.1
  have hb := hC.2.1
  have hK := hE.K
  obtain ⟨fo, hob⟩ := hH.ob
  refine lv_aload_n (pc := 1208) hx hb dL_harbour_1208 rfl (lv_at hl 0 rfl) ?_
  refine c_callV (pc := 1209) (y := yX4_print) (As := []) (rest := []) hC hE hP hD hS hl.1 (K_print l ε hst hH  (by decide +kernel)) m_12_11 m_12_12 m_12_13 m_0_2 m_12_14 hob rfl hd_yX4_print rfl ⟨⟨by decide, by decide⟩, (Nat.le_of_ble_eq_true rfl), (Nat.le_of_ble_eq_true rfl)⟩ (Nat.le_of_ble_eq_true rfl) rfl dL_harbour_1209 kxN (fun v w_1 H locs hq hP hD hS => ?_)
  refine W.widen (k := 2297) (n := 217052) (Nat.le_of_ble_eq_true rfl) (Nat.le_of_ble_eq_true rfl) ?_
  have hH : HC ε x U20 w_1 := hq.2.cv (S := U20) (by decide +kernel)
  obtain ⟨fo, hob⟩ := hH.ob
  rw [hq.1]
  dsimp only [Option.toList, List.cons_append, List.nil_append]
  rw [show nS U19 4 = 2 by decide +kernel]
  refine lv_iconst (pc := 1212) (v := iv 2) hx hb dL_harbour_1212 rfl ?_
  refine r_icmp_ne (pc := 1213) (a := 2) (b := 2) hx hb dL_harbour_1213 (tgt := 1341) (by decide) ⟨by omega, by omega⟩ ⟨by omega, by omega⟩ (fun c_1213 => ?_) (fun c_1213 => ?_)
  · exact absurd c_1213 (by decide)
  · have c_1213_ := c_1213
    refine lv_aload_n (pc := 1216) hx hb dL_harbour_1216 rfl (lv_at hl 0 rfl) ?_
    refine lv_iconst (pc := 1217) (v := iv 2) hx hb dL_harbour_1217 rfl ?_
    refine lv_iconst (pc := 1218) (v := iv 3) hx hb dL_harbour_1218 rfl ?_
    refine c_callV (pc := 1219) (y := yX4_shown) (As := [.int (iv 2), .int (iv 3)]) (rest := []) hC hE hP hD hS hl.1 (K_shown l ε hst hH 2 3 (by decide +kernel) (by decide +kernel)) m_14_7 m_14_8 m_14_9 m_0_2 m_14_10 hob rfl hd_yX4_shown rfl ⟨⟨by decide, by decide⟩, (Nat.le_of_ble_eq_true rfl), (Nat.le_of_ble_eq_true rfl)⟩ (Nat.le_of_ble_eq_true rfl) rfl dL_harbour_1219 kxN (fun v w_2 H locs hq hP hD hS => ?_)
    refine W.widen (k := 2299) (n := 217064) (Nat.le_of_ble_eq_true rfl) (Nat.le_of_ble_eq_true rfl) ?_
    rw [hq.2] at hP hD
    rw [hq.1]
    dsimp only [Option.toList, List.cons_append, List.nil_append]
    rw [show gS U20 13 (12 * 2 + 3 : Int).toNat = (-1) by decide +kernel]
    refine lv_iconst (pc := 1222) (v := iv (-1)) hx hb dL_harbour_1222 rfl ?_
    refine r_icmp_ne (pc := 1223) (a := (-1)) (b := (-1)) hx hb dL_harbour_1223 (tgt := 1341) (by decide) ⟨by omega, by omega⟩ ⟨by omega, by omega⟩ (fun c_1223 => ?_) (fun c_1223 => ?_)
    · exact absurd c_1223 (by decide)
    · have c_1223_ := c_1223
      refine lv_aload_n (pc := 1226) hx hb dL_harbour_1226 rfl (lv_at hl 0 rfl) ?_
      refine lv_iconst (pc := 1227) (v := iv 3) hx hb dL_harbour_1227 rfl ?_
      refine lv_iconst (pc := 1228) (v := iv 0) hx hb dL_harbour_1228 rfl ?_
      refine c_callV (pc := 1229) (y := yX4_fail) (As := [.int (iv 3), .int (iv 0)]) (rest := []) hC hE hP hD hS hl.1 (K_fail l ε hst hH 3 0 (by decide +kernel) (by decide +kernel) (by decide +kernel) (by decide +kernel)) m_10_17 m_10_18 m_10_19 m_0_2 m_10_20 hob rfl hd_yX4_fail rfl ⟨⟨by decide, by decide⟩, (Nat.le_of_ble_eq_true rfl), (Nat.le_of_ble_eq_true rfl)⟩ (Nat.le_of_ble_eq_true rfl) rfl dL_harbour_1229 kxN (fun v w_3 H locs hq hP hD hS => ?_)
      refine W.widen (k := 2307) (n := 218164) (Nat.le_of_ble_eq_true rfl) (Nat.le_of_ble_eq_true rfl) ?_
      have hH : HC ε x U21 w_3 := hq.2.cv (S := U21) (by decide +kernel)
      obtain ⟨fo, hob⟩ := hH.ob
      rw [hq.1]
      dsimp only [Option.toList, List.cons_append, List.nil_append]
      rw [show nS U20 3 = 10 by decide +kernel]
      refine lv_bipush (pc := 1232) (v := iv 10) hx hb dL_harbour_1232 (by decide) ?_
      refine r_icmp_ne (pc := 1234) (a := 10) (b := 10) hx hb dL_harbour_1234 (tgt := 1341) (by decide) ⟨by omega, by omega⟩ ⟨by omega, by omega⟩ (fun c_1234 => ?_) (fun c_1234 => ?_)
      · exact absurd c_1234 (by decide)
      · have c_1234_ := c_1234
        refine lv_aload_n (pc := 1237) hx hb dL_harbour_1237 rfl (lv_at hl 0 rfl) ?_
        refine lv_iconst (pc := 1238) (v := iv 3) hx hb dL_harbour_1238 rfl ?_
        refine lv_iconst (pc := 1239) (v := iv 0) hx hb dL_harbour_1239 rfl ?_
        refine c_callV (pc := 1240) (y := yX4_shines) (As := [.int (iv 3), .int (iv 0)]) (rest := []) hC hE hP hD hS hl.1 (K_shines l ε hst hH 3 0 (by decide +kernel) (by decide +kernel)) m_10_21 m_10_22 m_10_23 m_0_2 m_10_24 hob rfl hd_yX4_shines rfl ⟨⟨by decide, by decide⟩, (Nat.le_of_ble_eq_true rfl), (Nat.le_of_ble_eq_true rfl)⟩ (Nat.le_of_ble_eq_true rfl) rfl dL_harbour_1240 kxN (fun v w_4 H locs hq hP hD hS => ?_)
        refine W.widen (k := 2309) (n := 218176) (Nat.le_of_ble_eq_true rfl) (Nat.le_of_ble_eq_true rfl) ?_
        rw [hq.2] at hP hD
        rw [hq.1]
        dsimp only [Option.toList, List.cons_append, List.nil_append]
        rw [show bz (ON (gS U21) 3 0) = 1 by decide +kernel]
        refine r_if_eq (pc := 1243) (a := 1) hx hb dL_harbour_1243 (tgt := 1341) (by decide) ⟨by omega, by omega⟩ (fun c_1243 => ?_) (fun c_1243 => ?_)
        · exact absurd c_1243 (by decide)
        · have c_1243_ := c_1243
          refine lv_aload_n (pc := 1246) hx hb dL_harbour_1246 rfl (lv_at hl 0 rfl) ?_
          refine lv_iconst (pc := 1247) (v := iv 1) hx hb dL_harbour_1247 rfl ?_
          refine lv_bipush (pc := 1248) (v := iv 100) hx hb dL_harbour_1248 (by decide) ?_
          refine c_callV (pc := 1250) (y := yX4_correct) (As := [.int (iv 1), .int (iv 100)]) (rest := []) hC hE hP hD hS hl.1 (K_correct l ε hst hH 1 100 (by decide +kernel) (by decide +kernel)) m_13_15 m_13_16 m_13_17 m_0_2 m_13_18 hob rfl hd_yX4_correct rfl ⟨⟨by decide, by decide⟩, (Nat.le_of_ble_eq_true rfl), (Nat.le_of_ble_eq_true rfl)⟩ (Nat.le_of_ble_eq_true rfl) rfl dL_harbour_1250 kxN (fun v w_5 H locs hq hP hD hS => ?_)
          refine W.widen (k := 2312) (n := 218196) (Nat.le_of_ble_eq_true rfl) (Nat.le_of_ble_eq_true rfl) ?_
          have hH : HC ε x U22 w_5 := hq.2.cv (S := U22) (by decide +kernel)
          obtain ⟨fo, hob⟩ := hH.ob
          rw [hq.1]
          dsimp only [Option.toList, List.cons_append, List.nil_append]
          rw [show mn 100 (nS U21 3 - gS U21 12 (1 : Int).toNat) = 1 by decide +kernel]
          refine lv_iconst (pc := 1253) (v := iv 1) hx hb dL_harbour_1253 rfl ?_
          refine r_icmp_ne (pc := 1254) (a := 1) (b := 1) hx hb dL_harbour_1254 (tgt := 1341) (by decide) ⟨by omega, by omega⟩ ⟨by omega, by omega⟩ (fun c_1254 => ?_) (fun c_1254 => ?_)
          · exact absurd c_1254 (by decide)
          · have c_1254_ := c_1254
            refine W.widen (k := 2312) (n := 218196) (Nat.le_of_ble_eq_true rfl) (Nat.le_of_ble_eq_true rfl) ?_
            exact hnx _ _ _ _ _ _ _ _ _ hC hE hQ _ _ _ _ hH hP hD hS (lv_sub hl [0] rfl)
set_option maxRecDepth 100000 in
set_option maxHeartbeats 8000000 in
theorem sU_23 (l : Launch) (ε : EV) (hst : l.stackTraces = false) {x : Nat}  (hnx : SEG l ε yL_harbour cL_harbour 1 rm_A_harbour (fun v z => v = some (.int (iv 1))) 1306 2322 218258 [(0, .ref x)] (fun z => HC ε x U23 z)) : SEG l ε yL_harbour cL_harbour 1 rm_A_harbour (fun v z => v = some (.int (iv 1))) 1257 2312 218196 [(0, .ref x)] (fun z => HC ε x U22 z) := by
  intro p9 e9 s9 m9 a9 bl9 me9 c9 Q9 hC hE hQ H locs ls w9 hH hP hD hS hl
  have hx := hC.1
  have hb := hC.2.1
  have hK := hE.K
  obtain ⟨fo, hob⟩ := hH.ob
  refine lv_aload_n (pc := 1257) hx hb dL_harbour_1257 rfl (lv_at hl 0 rfl) ?_
  refine lv_iconst (pc := 1258) (v := iv 1) hx hb dL_harbour_1258 rfl ?_
  refine lv_iconst (pc := 1259) (v := iv 3) hx hb dL_harbour_1259 rfl ?_
  refine c_callV (pc := 1260) (y := yX4_shown) (As := [.int (iv 1), .int (iv 3)]) (rest := []) hC hE hP hD hS hl.1 (K_shown l ε hst hH 1 3 (by decide +kernel) (by decide +kernel)) m_14_7 m_14_8 m_14_9 m_0_2 m_14_10 hob rfl hd_yX4_shown rfl ⟨⟨by decide, by decide⟩, (Nat.le_of_ble_eq_true rfl), (Nat.le_of_ble_eq_true rfl)⟩ (Nat.le_of_ble_eq_true rfl) rfl dL_harbour_1260 kxN (fun v w_1 H locs hq hP hD hS => ?_)
  refine W.widen (k := 2314) (n := 218208) (Nat.le_of_ble_eq_true rfl) (Nat.le_of_ble_eq_true rfl) ?_
  rw [hq.2] at hP hD
  rw [hq.1]
  dsimp only [Option.toList, List.cons_append, List.nil_append]
  rw [show gS U22 13 (12 * 1 + 3 : Int).toNat = 3 by decide +kernel]
  refine lv_iconst (pc := 1263) (v := iv 3) hx hb dL_harbour_1263 rfl ?_
  refine r_icmp_ne (pc := 1264) (a := 3) (b := 3) hx hb dL_harbour_1264 (tgt := 1341) (by decide) ⟨by omega, by omega⟩ ⟨by omega, by omega⟩ (fun c_1264 => ?_) (fun c_1264 => ?_)
  · exact absurd c_1264 (by decide)
  · have c_1264_ := c_1264
    refine lv_aload_n (pc := 1267) hx hb dL_harbour_1267 rfl (lv_at hl 0 rfl) ?_
    refine lv_iconst (pc := 1268) (v := iv 2) hx hb dL_harbour_1268 rfl ?_
    refine lv_iconst (pc := 1269) (v := iv 3) hx hb dL_harbour_1269 rfl ?_
    refine c_callV (pc := 1270) (y := yX4_shown) (As := [.int (iv 2), .int (iv 3)]) (rest := []) hC hE hP hD hS hl.1 (K_shown l ε hst hH 2 3 (by decide +kernel) (by decide +kernel)) m_14_7 m_14_8 m_14_9 m_0_2 m_14_10 hob rfl hd_yX4_shown rfl ⟨⟨by decide, by decide⟩, (Nat.le_of_ble_eq_true rfl), (Nat.le_of_ble_eq_true rfl)⟩ (Nat.le_of_ble_eq_true rfl) rfl dL_harbour_1270 kxN (fun v w_2 H locs hq hP hD hS => ?_)
    refine W.widen (k := 2316) (n := 218220) (Nat.le_of_ble_eq_true rfl) (Nat.le_of_ble_eq_true rfl) ?_
    rw [hq.2] at hP hD
    rw [hq.1]
    dsimp only [Option.toList, List.cons_append, List.nil_append]
    rw [show gS U22 13 (12 * 2 + 3 : Int).toNat = (-1) by decide +kernel]
    refine lv_iconst (pc := 1273) (v := iv (-1)) hx hb dL_harbour_1273 rfl ?_
    refine r_icmp_ne (pc := 1274) (a := (-1)) (b := (-1)) hx hb dL_harbour_1274 (tgt := 1341) (by decide) ⟨by omega, by omega⟩ ⟨by omega, by omega⟩ (fun c_1274 => ?_) (fun c_1274 => ?_)
    · exact absurd c_1274 (by decide)
    · have c_1274_ := c_1274
      refine lv_aload_n (pc := 1277) hx hb dL_harbour_1277 rfl (lv_at hl 0 rfl) ?_
      refine lv_iconst (pc := 1278) (v := iv 0) hx hb dL_harbour_1278 rfl ?_
      refine c_callV (pc := 1279) (y := yX4_behind) (As := [.int (iv 0)]) (rest := []) hC hE hP hD hS hl.1 (K_behind l ε hst hH 0 (by decide +kernel)) m_14_3 m_14_4 m_14_5 m_0_2 m_14_6 hob rfl hd_yX4_behind rfl ⟨⟨by decide, by decide⟩, (Nat.le_of_ble_eq_true rfl), (Nat.le_of_ble_eq_true rfl)⟩ (Nat.le_of_ble_eq_true rfl) rfl dL_harbour_1279 kxN (fun v w_3 H locs hq hP hD hS => ?_)
      refine W.widen (k := 2317) (n := 218226) (Nat.le_of_ble_eq_true rfl) (Nat.le_of_ble_eq_true rfl) ?_
      rw [hq.2] at hP hD
      rw [hq.1]
      dsimp only [Option.toList, List.cons_append, List.nil_append]
      rw [show nS U22 3 - gS U22 12 (0 : Int).toNat = 4 by decide +kernel]
      refine lv_iconst (pc := 1282) (v := iv 4) hx hb dL_harbour_1282 rfl ?_
      refine r_icmp_ne (pc := 1283) (a := 4) (b := 4) hx hb dL_harbour_1283 (tgt := 1341) (by decide) ⟨by omega, by omega⟩ ⟨by omega, by omega⟩ (fun c_1283 => ?_) (fun c_1283 => ?_)
      · exact absurd c_1283 (by decide)
      · have c_1283_ := c_1283
        refine lv_aload_n (pc := 1286) hx hb dL_harbour_1286 rfl (lv_at hl 0 rfl) ?_
        refine lv_iconst (pc := 1287) (v := iv 0) hx hb dL_harbour_1287 rfl ?_
        refine lv_iconst (pc := 1288) (v := iv 2) hx hb dL_harbour_1288 rfl ?_
        refine c_callV (pc := 1289) (y := yX4_correct) (As := [.int (iv 0), .int (iv 2)]) (rest := []) hC hE hP hD hS hl.1 (K_correct l ε hst hH 0 2 (by decide +kernel) (by decide +kernel)) m_13_15 m_13_16 m_13_17 m_0_2 m_13_18 hob rfl hd_yX4_correct rfl ⟨⟨by decide, by decide⟩, (Nat.le_of_ble_eq_true rfl), (Nat.le_of_ble_eq_true rfl)⟩ (Nat.le_of_ble_eq_true rfl) rfl dL_harbour_1289 kxN (fun v w_4 H locs hq hP hD hS => ?_)
        refine W.widen (k := 2320) (n := 218246) (Nat.le_of_ble_eq_true rfl) (Nat.le_of_ble_eq_true rfl) ?_
        have hH : HC ε x U23 w_4 := hq.2.cv (S := U23) (by decide +kernel)
        obtain ⟨fo, hob⟩ := hH.ob
        rw [hq.1]
        dsimp only [Option.toList, List.cons_append, List.nil_append]
        rw [show mn 2 (nS U22 3 - gS U22 12 (0 : Int).toNat) = 2 by decide +kernel]
        refine lv_iconst (pc := 1292) (v := iv 2) hx hb dL_harbour_1292 rfl ?_
        refine r_icmp_ne (pc := 1293) (a := 2) (b := 2) hx hb dL_harbour_1293 (tgt := 1341) (by decide) ⟨by omega, by omega⟩ ⟨by omega, by omega⟩ (fun c_1293 => ?_) (fun c_1293 => ?_)
        · exact absurd c_1293 (by decide)
        · have c_1293_ := c_1293
          refine lv_aload_n (pc := 1296) hx hb dL_harbour_1296 rfl (lv_at hl 0 rfl) ?_
          refine lv_iconst (pc := 1297) (v := iv 0) hx hb dL_harbour_1297 rfl ?_
          refine lv_iconst (pc := 1298) (v := iv 3) hx hb dL_harbour_1298 rfl ?_
          refine c_callV (pc := 1299) (y := yX4_shown) (As := [.int (iv 0), .int (iv 3)]) (rest := []) hC hE hP hD hS hl.1 (K_shown l ε hst hH 0 3 (by decide +kernel) (by decide +kernel)) m_14_7 m_14_8 m_14_9 m_0_2 m_14_10 hob rfl hd_yX4_shown rfl ⟨⟨by decide, by decide⟩, (Nat.le_of_ble_eq_true rfl), (Nat.le_of_ble_eq_true rfl)⟩ (Nat.le_of_ble_eq_true rfl) rfl dL_harbour_1299 kxN (fun v w_5 H locs hq hP hD hS => ?_)
          refine W.widen (k := 2322) (n := 218258) (Nat.le_of_ble_eq_true rfl) (Nat.le_of_ble_eq_true rfl) ?_
          rw [hq.2] at hP hD
          rw [hq.1]
          dsimp only [Option.toList, List.cons_append, List.nil_append]
          rw [show gS U23 13 (12 * 0 + 3 : Int).toNat = (-1) by decide +kernel]
          refine lv_iconst (pc := 1302) (v := iv (-1)) hx hb dL_harbour_1302 rfl ?_
          refine r_icmp_ne (pc := 1303) (a := (-1)) (b := (-1)) hx hb dL_harbour_1303 (tgt := 1341) (by decide) ⟨by omega, by omega⟩ ⟨by omega, by omega⟩ (fun c_1303 => ?_) (fun c_1303 => ?_)
          · exact absurd c_1303 (by decide)
          · have c_1303_ := c_1303
            refine W.widen (k := 2322) (n := 218258) (Nat.le_of_ble_eq_true rfl) (Nat.le_of_ble_eq_true rfl) ?_
            exact hnx _ _ _ _ _ _ _ _ _ hC hE hQ _ _ _ _ hH hP hD hS (lv_sub hl [0] rfl)
set_option maxRecDepth 100000 in
set_option maxHeartbeats 8000000 in
theorem sU_24 (l : Launch) (ε : EV) (hst : l.stackTraces = false) {x : Nat}  : SEG l ε yL_harbour cL_harbour 1 rm_A_harbour (fun v z => v = some (.int (iv 1))) 1306 2322 218258 [(0, .ref x)] (fun z => HC ε x U23 z) := by
  intro p9 e9 s9 m9 a9 bl9 me9 c9 Q9 hC hE hQ H locs ls w9 hH hP hD hS hl
  have hx := hC.1
  have hb := hC.2.1
  have hK := hE.K
  obtain ⟨fo, hob⟩ := hH.ob
  refine lv_aload_n (pc := 1306) hx hb dL_harbour_1306 rfl (lv_at hl 0 rfl) ?_
  refine lv_iconst (pc := 1307) (v := iv 0) hx hb dL_harbour_1307 rfl ?_
  refine lv_bipush (pc := 1308) (v := iv 100) hx hb dL_harbour_1308 (by decide) ?_
  refine c_callV (pc := 1310) (y := yX4_correct) (As := [.int (iv 0), .int (iv 100)]) (rest := []) hC hE hP hD hS hl.1 (K_correct l ε hst hH 0 100 (by decide +kernel) (by decide +kernel)) m_13_15 m_13_16 m_13_17 m_0_2 m_13_18 hob rfl hd_yX4_correct rfl ⟨⟨by decide, by decide⟩, (Nat.le_of_ble_eq_true rfl), (Nat.le_of_ble_eq_true rfl)⟩ (Nat.le_of_ble_eq_true rfl) rfl dL_harbour_1310 kxN (fun v w_1 H locs hq hP hD hS => ?_)
  refine W.widen (k := 2325) (n := 218278) (Nat.le_of_ble_eq_true rfl) (Nat.le_of_ble_eq_true rfl) ?_
  have hH : HC ε x U24 w_1 := hq.2.cv (S := U24) (by decide +kernel)
  obtain ⟨fo, hob⟩ := hH.ob
  rw [hq.1]
  dsimp only [Option.toList, List.cons_append, List.nil_append]
  rw [show mn 100 (nS U23 3 - gS U23 12 (0 : Int).toNat) = 2 by decide +kernel]
  refine lv_iconst (pc := 1313) (v := iv 2) hx hb dL_harbour_1313 rfl ?_
  refine r_icmp_ne (pc := 1314) (a := 2) (b := 2) hx hb dL_harbour_1314 (tgt := 1341) (by decide) ⟨by omega, by omega⟩ ⟨by omega, by omega⟩ (fun c_1314 => ?_) (fun c_1314 => ?_)
  · exact absurd c_1314 (by decide)
  · have c_1314_ := c_1314
    refine lv_aload_n (pc := 1317) hx hb dL_harbour_1317 rfl (lv_at hl 0 rfl) ?_
    refine lv_iconst (pc := 1318) (v := iv 0) hx hb dL_harbour_1318 rfl ?_
    refine lv_iconst (pc := 1319) (v := iv 3) hx hb dL_harbour_1319 rfl ?_
    refine c_callV (pc := 1320) (y := yX4_shown) (As := [.int (iv 0), .int (iv 3)]) (rest := []) hC hE hP hD hS hl.1 (K_shown l ε hst hH 0 3 (by decide +kernel) (by decide +kernel)) m_14_7 m_14_8 m_14_9 m_0_2 m_14_10 hob rfl hd_yX4_shown rfl ⟨⟨by decide, by decide⟩, (Nat.le_of_ble_eq_true rfl), (Nat.le_of_ble_eq_true rfl)⟩ (Nat.le_of_ble_eq_true rfl) rfl dL_harbour_1320 kxN (fun v w_2 H locs hq hP hD hS => ?_)
    refine W.widen (k := 2327) (n := 218290) (Nat.le_of_ble_eq_true rfl) (Nat.le_of_ble_eq_true rfl) ?_
    rw [hq.2] at hP hD
    rw [hq.1]
    dsimp only [Option.toList, List.cons_append, List.nil_append]
    rw [show gS U24 13 (12 * 0 + 3 : Int).toNat = 3 by decide +kernel]
    refine lv_iconst (pc := 1323) (v := iv 3) hx hb dL_harbour_1323 rfl ?_
    refine r_icmp_ne (pc := 1324) (a := 3) (b := 3) hx hb dL_harbour_1324 (tgt := 1341) (by decide) ⟨by omega, by omega⟩ ⟨by omega, by omega⟩ (fun c_1324 => ?_) (fun c_1324 => ?_)
    · exact absurd c_1324 (by decide)
    · have c_1324_ := c_1324
      refine lv_aload_n (pc := 1327) hx hb dL_harbour_1327 rfl (lv_at hl 0 rfl) ?_
      refine lv_iconst (pc := 1328) (v := iv 4) hx hb dL_harbour_1328 rfl ?_
      refine lv_iconst (pc := 1329) (v := iv 4) hx hb dL_harbour_1329 rfl ?_
      refine lv_iconst (pc := 1330) (v := iv 3) hx hb dL_harbour_1330 rfl ?_
      refine c_callS (pc := 1331) (y := yL_refuses) (As := [.ref x, .int (iv 4), .int (iv 4), .int (iv 3)]) (rest := []) hC hE hP hD hS hl.1 (A_refuses l ε hst hH 4 4 3 (by decide +kernel) (by decide +kernel) (by decide +kernel) (by decide +kernel)) m_1_19 m_1_20 m_0_5 m_1_21 hd_yL_refuses rfl ⟨⟨by decide, by decide⟩, (Nat.le_of_ble_eq_true rfl), (Nat.le_of_ble_eq_true rfl)⟩ (Nat.le_of_ble_eq_true rfl) rfl dL_harbour_1331 kxN (fun v w_3 H locs hq hP hD hS => ?_)
      refine W.widen (k := 3171) (n := 304922) (Nat.le_of_ble_eq_true rfl) (Nat.le_of_ble_eq_true rfl) ?_
      rw [hq.2] at hP hD
      rw [hq.1]
      dsimp only [Option.toList, List.cons_append, List.nil_append]
      refine r_if_eq (pc := 1334) (a := 1) hx hb dL_harbour_1334 (tgt := 1341) (by decide) ⟨by omega, by omega⟩ (fun c_1334 => ?_) (fun c_1334 => ?_)
      · exact absurd c_1334 (by decide)
      · have c_1334_ := c_1334
        refine lv_iconst (pc := 1337) (v := iv 1) hx hb dL_harbour_1337 rfl ?_
        refine lv_goto (pc := 1338) (tgt := 1342) hx hb dL_harbour_1338 (by decide) ?_
        refine c_zret (pc := 1342) hC hQ hP hD hS (by decide) (by decide) dL_harbour_1342 nz_1 ?_
        exact rfl
theorem A_harbour (l : Launch) (ε : EV) (hst : l.stackTraces = false) (w : va_W) : CT l yL_harbour cL_harbour 1 (some .boolean) rm_A_harbour ε [] w (fun v z => v = some (.int (iv 1))) NX := SEG.ct (P := fun _ => True) (by decide +kernel) (Nat.le_of_ble_eq_true rfl) trivial (sU_0 l ε hst (fun x => sU_1 l ε hst (sU_2 l ε hst (sU_3 l ε hst (sU_4 l ε hst (sU_5 l ε hst (sU_6 l ε hst (sU_7 l ε hst (sU_8 l ε hst (sU_9 l ε hst (sU_10 l ε hst (sU_11 l ε hst (sU_12 l ε hst (sU_13 l ε hst (sU_14 l ε hst (sU_15 l ε hst (sU_16 l ε hst (sU_17 l ε hst (sU_18 l ε hst (sU_19 l ε hst (sU_20 l ε hst (sU_21 l ε hst (sU_22 l ε hst (sU_23 l ε hst (sU_24 l ε hst)))))))))))))))))))))))))
