/-! THE CLAIM OUT OF ONE WALK OF THE LAW'S BODY. Your part is whole_start (and what it stands on); all else here is the same for every law, but numbers. -/
def R_law : String := "LampRhythmsLaw"
def lw_P (b : Addr) (xs : List Int32) (args : Array Value) (s : State) : Prop := args = #[.ref b] ∧ s.IntsAt b xs ∧ xs.length ≤ 260 ∧ (Jvm.Cond.and given_1 narrow_1).before args s = true
def lw_Q (_ : Array Value) (s : State) (o : Outcome) (t : State) : Prop := o = .returned (some (.int 1)) ∧ Framed s o t [] 670140 7091351
def lw_Z (below : List Frame) (a : Array Value) (s : State) : State → Prop := fun t => ∃ o, t.status = .running ∧ Ended t below o ∧ lw_Q a s o t
/-- the law's own end, with 1 on the stack, nothing written that was there before, its room as the claim has it -/
theorem lw_ret {p : Program} {l : Launch} {e : Env} {s : State} {m : MethodId} {below : List Frame} {meth : Method} {c : Code} {b : Nat} (hx : p.tables.exec = Jvm.exec) (hb : c.code = code) (hr : meth.sig.returnType = ret) (hlocks : meth.locks = false) {pc : Nat} {H : Heap} {ls : Array Slot} (hdg : decode code pc = .ok (.ireturn, 1)) : W p l e room_1 s m #[Value.ref b] below meth c H [] 670140 7091351 (lw_Z below #[Value.ref b] s) (F0 m pc ls [.int 1]) := by
  intro T hT X
  obtain ⟨fs, hret, hrun, hended, hW, hframe⟩ := X.leave (v := some (.int 1)) (hlocks := hlocks) (fun h => by rw [hr] at h; cases h)
  have hmeth' : T.vm.method? m = some meth := X.method'
  refine ⟨T.setFrames fs, ?_, .returned (some (.int 1)), hrun, hended, rfl, ⟨_, rfl⟩, hW, hframe⟩
  jvm_step X.here [X.here.top, hx, hb, hdg, hmeth', hr, ret, narrow_b1]
  (try refine ⟨rfl, ?_⟩); (try refine ⟨rfl, ?_⟩)
  first | (intro acts; rw [hret _ acts rfl rfl rfl]) | rw [hret _ _ rfl rfl rfl]
  exact Steps.refl _
/-- what holds at the law's entry: the machine, the code, the tables' words (any of lw_tbl by 'hts w (by decide +kernel)'), the script of L ints xs at the cell b, what the Statement gives of the start (any of its parts by flat_of_before) -/
def lw_At (p : Program) (s : State) (m : MethodId) (meth : Method) (c : Code) (b L : Nat) (xs : Nat → Int32) : Prop :=
  p.tables.exec = Jvm.exec ∧ c.code = code ∧ meth.sig.returnType = ret ∧ c.maxLocals = 4 ∧ s.vm.findClass R_law = some m.cls ∧ (∀ w ∈ lw_tbl, w.before #[Value.ref b] s = true) ∧ va_X b L xs s s.heap ∧ b < s.heap.size ∧ meth.locks = false ∧ (Jvm.Cond.and given_1 narrow_1).before #[Value.ref b] s = true
set_option maxRecDepth 20000 in
theorem wl_0 : ∀ w ∈ wa_0, w ∈ lw_tbl := fun w h => (goodIn_p wa_0 [582, 44, 47] rfl (by decide +kernel) w h).1
set_option maxRecDepth 20000 in
theorem wl_1 : ∀ w ∈ wa_1, w ∈ lw_tbl := fun w h => (goodIn_p wa_1 [52, 55, 58, 515] rfl (by decide +kernel) w h).1
set_option maxRecDepth 20000 in
theorem wl_2 : ∀ w ∈ wa_2, w ∈ lw_tbl := fun w h => (goodIn_p wa_2 [455, 193, 519, 316, 319, 322] rfl (by decide +kernel) w h).1
set_option maxRecDepth 20000 in
theorem wl_3 : ∀ w ∈ wa_3, w ∈ lw_tbl := fun w h => (goodIn_p wa_3 [326, 523, 292, 296, 334] rfl (by decide +kernel) w h).1
set_option maxRecDepth 20000 in
theorem wl_4 : ∀ w ∈ wa_4, w ∈ lw_tbl := fun w h => (goodIn_p wa_4 [338, 445, 448] rfl (by decide +kernel) w h).1
set_option maxRecDepth 20000 in
theorem wl_5 : ∀ w ∈ wa_5, w ∈ lw_tbl := fun w h => (goodIn_p wa_5 [97, 100, 188, 199] rfl (by decide +kernel) w h).1
set_option maxRecDepth 20000 in
theorem wl_6 : ∀ w ∈ wa_6, w ∈ lw_tbl := fun w h => (goodIn_p wa_6 [209, 215, 219, 222] rfl (by decide +kernel) w h).1
set_option maxRecDepth 20000 in
theorem wl_7 : ∀ w ∈ wa_7, w ∈ lw_tbl := fun w h => (goodIn_p wa_7 [238, 242, 246, 250, 256, 253] rfl (by decide +kernel) w h).1
set_option maxRecDepth 20000 in
theorem wl_8 : ∀ w ∈ wa_8, w ∈ lw_tbl := fun w h => (goodIn_p wa_8 [260, 263, 279, 288, 330] rfl (by decide +kernel) w h).1
set_option maxRecDepth 20000 in
theorem wl_9 : ∀ w ∈ wa_9, w ∈ lw_tbl := fun w h => (goodIn_p wa_9 [534, 538, 542, 429, 546, 396] rfl (by decide +kernel) w h).1
set_option maxRecDepth 20000 in
theorem wl_10 : ∀ w ∈ wa_10, w ∈ lw_tbl := fun w h => (goodIn_p wa_10 [400, 392, 406, 550, 420] rfl (by decide +kernel) w h).1
set_option maxRecDepth 20000 in
theorem wl_11 : ∀ w ∈ wa_11, w ∈ lw_tbl := fun w h => (goodIn_p wa_11 [425, 555, 345, 361, 358, 364] rfl (by decide +kernel) w h).1
set_option maxRecDepth 20000 in
theorem wl_12 : ∀ w ∈ wa_12, w ∈ lw_tbl := fun w h => (goodIn_p wa_12 [433, 437, 441, 459, 465] rfl (by decide +kernel) w h).1
set_option maxRecDepth 20000 in
theorem wl_13 : ∀ w ∈ wa_13, w ∈ lw_tbl := fun w h => (goodIn_p wa_13 [469, 481, 486, 560, 494] rfl (by decide +kernel) w h).1
set_option maxRecDepth 20000 in
theorem wl_14 : ∀ w ∈ wa_14, w ∈ lw_tbl := fun w h => (goodIn_p wa_14 [564, 568, 572, 503, 342] rfl (by decide +kernel) w h).1
set_option maxRecDepth 20000 in
theorem wl_15 : ∀ w ∈ wa_15, w ∈ lw_tbl := fun w h => (goodIn_p wa_15 [351, 355, 490, 499] rfl (by decide +kernel) w h).1
set_option maxRecDepth 20000 in
theorem wl_16 : ∀ w ∈ wa_16, w ∈ lw_tbl := fun w h => (goodIn_p wa_16 [507, 511, 585, 594, 597, 600, 604, 607] rfl (by decide +kernel) w h).1
set_option maxRecDepth 20000 in
theorem wk_0 : ∀ w ∈ wsX40, w ∈ lw_tbl := by decide +kernel
set_option maxRecDepth 20000 in
theorem wk_1 : ∀ w ∈ wsX50, w ∈ lw_tbl := by decide +kernel
set_option maxRecDepth 20000 in
theorem wk_2 : ∀ w ∈ wsJx4a65c0, w ∈ lw_tbl := by decide +kernel
set_option maxRecDepth 20000 in
theorem wk_3 : ∀ w ∈ wsX30, w ∈ lw_tbl := by decide +kernel
set_option maxRecDepth 20000 in
theorem wk_4 : ∀ w ∈ wsX10, w ∈ lw_tbl := by decide +kernel
set_option maxRecDepth 20000 in
theorem wk_5 : ∀ w ∈ wsX20, w ∈ lw_tbl := by decide +kernel
set_option maxRecDepth 20000 in
theorem wk_6 : ∀ w ∈ wsX00, w ∈ lw_tbl := by decide +kernel
set_option maxRecDepth 20000 in
theorem wk_7 : ∀ w ∈ ((vx_atS RX4 41 "java/lang/IllegalStateException" ["java/lang/RuntimeException", "java/lang/Exception"]).filter goodWord), w ∈ lw_tbl := by decide +kernel
set_option maxRecDepth 20000 in
theorem wk_8 : ∀ w ∈ ((vx_atS RX4 187 "java/lang/IllegalArgumentException" ["java/lang/RuntimeException", "java/lang/Exception"]).filter goodWord), w ∈ lw_tbl := by decide +kernel
set_option maxRecDepth 20000 in
theorem wk_9 : ∀ w ∈ ((vx_atS RX4 192 "java/lang/IndexOutOfBoundsException" ["java/lang/RuntimeException", "java/lang/Exception"]).filter goodWord), w ∈ lw_tbl := by decide +kernel
theorem WALL_in : ∀ w ∈ WALL, w ∈ lw_tbl := List.forall_mem_append.mpr ⟨wl_0, List.forall_mem_append.mpr ⟨wl_1, List.forall_mem_append.mpr ⟨wl_2, List.forall_mem_append.mpr ⟨wl_3, List.forall_mem_append.mpr ⟨wl_4, List.forall_mem_append.mpr ⟨wl_5, List.forall_mem_append.mpr ⟨wl_6, List.forall_mem_append.mpr ⟨wl_7, List.forall_mem_append.mpr ⟨wl_8, List.forall_mem_append.mpr ⟨wl_9, List.forall_mem_append.mpr ⟨wl_10, List.forall_mem_append.mpr ⟨wl_11, List.forall_mem_append.mpr ⟨wl_12, List.forall_mem_append.mpr ⟨wl_13, List.forall_mem_append.mpr ⟨wl_14, List.forall_mem_append.mpr ⟨wl_15, List.forall_mem_append.mpr ⟨wl_16, List.forall_mem_append.mpr ⟨wk_0, List.forall_mem_append.mpr ⟨wk_1, List.forall_mem_append.mpr ⟨wk_2, List.forall_mem_append.mpr ⟨wk_3, List.forall_mem_append.mpr ⟨wk_4, List.forall_mem_append.mpr ⟨wk_5, List.forall_mem_append.mpr ⟨wk_6, List.forall_mem_append.mpr ⟨wk_7, List.forall_mem_append.mpr ⟨wk_8, wk_9⟩⟩⟩⟩⟩⟩⟩⟩⟩⟩⟩⟩⟩⟩⟩⟩⟩⟩⟩⟩⟩⟩⟩⟩⟩⟩
set_option maxRecDepth 20000 in
set_option maxHeartbeats 4000000 in
theorem env_start {s : State} {A : Array Value} (hts : ∀ w ∈ lw_tbl, w.before A s = true) (hgv : (Jvm.Cond.and given_1 narrow_1).before A s = true) : ∃ ε : EV, ε.1 = s.heap.size ∧ ENV ε s s.heap := by
  have hn := flat_of_before _ hgv
  have hw : ∀ w ∈ WALL, w.before A s = true := fun w h => hts w (WALL_in w h)
  have hA : ∀ a : Nat, a < s.heap.size → ¬ (fun q : Nat => s.heap.size ≤ q) a := fun a h z => by have z2 : s.heap.size ≤ a := z; omega
  obtain ⟨c0, i0, k0⟩ := u_known (C := RJx4a65c) (T := TJx4a65c) (N := 3) (n := 3) hw (fun w h => wt_2 w h) (hw _ m_0_23)
  obtain ⟨c1, i1, k1⟩ := u_known (C := RX0) (T := TX0) (N := 2) (n := 2) hw (fun w h => wt_6 w h) (hw _ m_12_16)
  obtain ⟨c2, i2, k2⟩ := u_known (C := RX1) (T := TX1) (N := 6) (n := 6) hw (fun w h => wt_4 w h) (hw _ m_14_23)
  obtain ⟨c3, i3, k3⟩ := u_known (C := RX2) (T := TX2) (N := 2) (n := 2) hw (fun w h => wt_5 w h) (hw _ m_10_8)
  obtain ⟨c4, i4, k4⟩ := u_known (C := RX3) (T := TX3) (N := 3) (n := 3) hw (fun w h => wt_3 w h) (hw _ m_5_15)
  obtain ⟨c5, i5, k5⟩ := u_known (C := RX4) (T := TX4) (N := 6) (n := 6) hw (fun w h => wt_0 w h) (hw _ m_0_1)
  obtain ⟨cI, kI, pI, aI1, aI2, aI3⟩ := Cond.arrayClass_spec (hw _ m_0_19)
  have hov : (Cond.arrayOver (.object "java/lang/Object")).before A s = true := hts _ (by decide +kernel)
  obtain ⟨pO, cO, kO, o1, o2, o3, o4, o5⟩ := Cond.arrayOver_spec hov
  obtain ⟨t, ht, hT⟩ := va_Tof (N := 0) (f := fun _ => .null) (A := fun q : Nat => s.heap.size ≤ q) (by decide) (hn (.arrayOf (.static "java/util/ArrayList" "DEFAULTCAPACITY_EMPTY_ELEMENTDATA" "[Ljava/lang/Object;") (.object "java/lang/Object")) (by decide +kernel)) (va_eqt (hn (.eq (.length (.static "java/util/ArrayList" "DEFAULTCAPACITY_EMPTY_ELEMENTDATA" "[Ljava/lang/Object;")) (.int 0)) (by decide +kernel))) (fun j hj => absurd hj (Nat.not_lt_zero j)) hA
  have hZ := va_Zref (A := fun q : Nat => s.heap.size ≤ q) (hts (.laysStatic "java/util/ArrayList" "DEFAULTCAPACITY_EMPTY_ELEMENTDATA" "[Ljava/lang/Object;") (by decide +kernel)) (hts (.initialized "java/util/ArrayList") (by decide +kernel)) ht hA
  obtain ⟨mi, hmi⟩ := va_Mi.of (hn (.isRef (.mirror "[Ljava/lang/Object;")) (by decide +kernel))
  have hU : vx_Zq Bundle.tN "UNASSIGNED_STACK" Bundle.steD (fun q : Nat => s.heap.size ≤ q) s s.heap := vx_Zqof (hts (.laysStatic Bundle.tN "UNASSIGNED_STACK" Bundle.steD) (by decide +kernel)) (hts (.initialized Bundle.tN) (by decide +kernel)) (hn (.isRef (.static Bundle.tN "UNASSIGNED_STACK" Bundle.steD)) (by decide +kernel)) hA
  have hV : vx_Zq Bundle.tN "SUPPRESSED_SENTINEL" Bundle.listD (fun q : Nat => s.heap.size ≤ q) s s.heap := vx_Zqof (hts (.laysStatic Bundle.tN "SUPPRESSED_SENTINEL" Bundle.listD) (by decide +kernel)) (hts (.initialized Bundle.tN) (by decide +kernel)) (hn (.isRef (.static Bundle.tN "SUPPRESSED_SENTINEL" Bundle.listD)) (by decide +kernel)) hA
  have n_nIAE_nISE : va_Nc nIAE nISE s := va_Nc.of (hn (.not (.castable nIAE nISE)) (by decide +kernel))
  have n_nIAE_nIOE : va_Nc nIAE nIOE s := va_Nc.of (hn (.not (.castable nIAE nIOE)) (by decide +kernel))
  have n_nISE_nIAE : va_Nc nISE nIAE s := va_Nc.of (hn (.not (.castable nISE nIAE)) (by decide +kernel))
  have n_nISE_nIOE : va_Nc nISE nIOE s := va_Nc.of (hn (.not (.castable nISE nIOE)) (by decide +kernel))
  have n_nIOE_nIAE : va_Nc nIOE nIAE s := va_Nc.of (hn (.not (.castable nIOE nIAE)) (by decide +kernel))
  have n_nIOE_nISE : va_Nc nIOE nISE s := va_Nc.of (hn (.not (.castable nIOE nISE)) (by decide +kernel))
  have hc : ∀ C T : String, Cond.castable C T ∈ lw_tbl → ∃ C1 T1 : String, Cond.castable C T = .castable C1 T1 ∧ va_Nw (.castable C T) s := fun C T h => ⟨C, T, rfl, va_Nw.of rfl (hts _ h)⟩
  have hd : ∀ y : MethodName, Cond.declares y ∈ lw_tbl → ∃ y1 : MethodName, Cond.declares y = .declares y1 ∧ va_Nw (.declares y) s := fun y h => ⟨y, rfl, va_Nw.of rfl (hts _ h)⟩
  have hs : ∀ (k : Nat) (tx : String), Cond.stringRef RX4 k tx ∈ lw_tbl → Cond.exactly (.string RX4 k) "java/lang/String" ∈ flatC (Jvm.Cond.and given_1 narrow_1) → ∃ a, vk_R RX4 k tx a s := fun k tx h1 h2 => by
    obtain ⟨a, c, cell, k9, z, -⟩ := Cond.exactly_spec (hn _ h2)
    exact ⟨a, vk_R.of (A := A) (hts _ h1) z⟩
  refine ⟨(s.heap.size, (fun k => match k with | 0 => c0 | 1 => c1 | 2 => c2 | 3 => c3 | 4 => c4 | _ => c5, fun k => match k with | 0 => i0 | 1 => i1 | 2 => i2 | 3 => i3 | 4 => i4 | _ => i5), (fun k => match k with | 2 => cO | _ => cI), fun k => match k with | 0 => t | _ => mi), rfl, Nat.le_refl _, ⟨fun k q hq => ?_, fun k q hq => ?_⟩, ?_, ?_, hZ, hT, hU, hV, hmi, va_Dc.of (hts _ (by decide +kernel)), va_AO.of hov, ?_, ?_⟩
  · match k, hq with
    | 0, hq => cases hq; exact k0
    | 1, hq => cases hq; exact k1
    | 2, hq => cases hq; exact k2
    | 3, hq => cases hq; exact k3
    | 4, hq => cases hq; exact k4
    | 5, hq => cases hq; exact k5
    | k + 6, hq => simp [vwCl] at hq
  · match k, hq with
    | 0, hq => cases hq; exact ⟨fun n z => ⟨fun k h => (by cases h), kI, aI2, pI, aI3⟩, aI1⟩
    | 1, hq => cases hq; exact ⟨fun n z => ⟨fun k h => (by cases h), kO, o3, pO, o4⟩, kO, pO, o3, o4, o1, o5⟩
    | k + 2, hq => simp [tys] at hq
  · exact List.forall_mem_cons.mpr ⟨hc _ _ (by decide +kernel), List.forall_mem_cons.mpr ⟨hc _ _ (by decide +kernel), List.forall_mem_cons.mpr ⟨hc _ _ (by decide +kernel), List.forall_mem_cons.mpr ⟨hc _ _ (by decide +kernel), List.forall_mem_cons.mpr ⟨hc _ _ (by decide +kernel), List.forall_mem_cons.mpr ⟨hc _ _ (by decide +kernel), List.forall_mem_cons.mpr ⟨hc _ _ (by decide +kernel), List.forall_mem_cons.mpr ⟨hc _ _ (by decide +kernel), fun _ h => absurd h List.not_mem_nil⟩⟩⟩⟩⟩⟩⟩⟩
  · intro a ha b hb hne
    simp only [List.mem_cons, List.not_mem_nil, or_false] at ha hb
    rcases ha with rfl | rfl | rfl <;> rcases hb with rfl | rfl | rfl <;> first | exact absurd rfl hne | assumption
  · exact List.forall_mem_cons.mpr ⟨hs _ _ (by decide +kernel) (by decide +kernel), List.forall_mem_cons.mpr ⟨hs _ _ (by decide +kernel) (by decide +kernel), List.forall_mem_cons.mpr ⟨hs _ _ (by decide +kernel) (by decide +kernel), List.forall_mem_cons.mpr ⟨hs _ _ (by decide +kernel) (by decide +kernel), List.forall_mem_cons.mpr ⟨hs _ _ (by decide +kernel) (by decide +kernel), List.forall_mem_cons.mpr ⟨hs _ _ (by decide +kernel) (by decide +kernel), List.forall_mem_cons.mpr ⟨hs _ _ (by decide +kernel) (by decide +kernel), List.forall_mem_cons.mpr ⟨hs _ _ (by decide +kernel) (by decide +kernel), List.forall_mem_cons.mpr ⟨hs _ _ (by decide +kernel) (by decide +kernel), List.forall_mem_cons.mpr ⟨hs _ _ (by decide +kernel) (by decide +kernel), fun _ h => absurd h List.not_mem_nil⟩⟩⟩⟩⟩⟩⟩⟩⟩⟩
  · exact List.forall_mem_cons.mpr ⟨hd _ (by decide +kernel), List.forall_mem_cons.mpr ⟨hd _ (by decide +kernel), List.forall_mem_cons.mpr ⟨hd _ (by decide +kernel), fun _ h => absurd h List.not_mem_nil⟩⟩⟩
