section
-- ===== PART A: goes FIRST, ahead of the names: the tables' words, and 'selects' of the private methods out of them =====
/-- a private method of a class that the tables say can be made, by its rows of tables_1 -/
def lw_okq (q : MethodName × Nat) : Prop := (q.1.cls ≠ "java/lang/invoke/MethodHandle" ∧ q.1.cls ≠ "java/lang/invoke/VarHandle") ∧ Cond.instantiable q.1.cls q.2 ∈ tables_1 ∧ Cond.privateMethod q.1 ∈ tables_1 ∧ Cond.instanceMethod q.1 ∈ tables_1
theorem lw_p0 : lw_okq (⟨"LampRhythms", "clash", "(LLampRhythms$Lamp;LLampRhythms$Lamp;)Z"⟩, 6) := ⟨⟨by decide +kernel, by decide +kernel⟩, List.mem_of_getElem? (i := 24) (by decide +kernel), List.mem_of_getElem? (i := 101) (by decide +kernel), List.mem_of_getElem? (i := 102) (by decide +kernel)⟩
theorem lw_p1 : lw_okq (⟨"LampRhythms", "patternAt", "(I)LLampRhythms$Pattern;"⟩, 6) := ⟨⟨by decide +kernel, by decide +kernel⟩, List.mem_of_getElem? (i := 24) (by decide +kernel), List.mem_of_getElem? (i := 105) (by decide +kernel), List.mem_of_getElem? (i := 106) (by decide +kernel)⟩
theorem lw_p2 : lw_okq (⟨"LampRhythms", "requirePattern", "(I)V"⟩, 6) := ⟨⟨by decide +kernel, by decide +kernel⟩, List.mem_of_getElem? (i := 24) (by decide +kernel), List.mem_of_getElem? (i := 109) (by decide +kernel), List.mem_of_getElem? (i := 110) (by decide +kernel)⟩
theorem lw_p3 : lw_okq (⟨"java/lang/Throwable", "fillInStackTrace", "(I)Ljava/lang/Throwable;"⟩, 6) := ⟨⟨by decide +kernel, by decide +kernel⟩, List.mem_of_getElem? (i := 151) (by decide +kernel), List.mem_of_getElem? (i := 149) (by decide +kernel), List.mem_of_getElem? (i := 150) (by decide +kernel)⟩
theorem lw_p4 : lw_okq (⟨"LampRhythms$Pattern", "hasPhasesTurned", "(LLampRhythms$Pattern;I)Z"⟩, 4) := ⟨⟨by decide +kernel, by decide +kernel⟩, List.mem_of_getElem? (i := 188) (by decide +kernel), List.mem_of_getElem? (i := 186) (by decide +kernel), List.mem_of_getElem? (i := 187) (by decide +kernel)⟩
theorem lw_p5 : lw_okq (⟨"java/util/ArrayList", "add", "(Ljava/lang/Object;[Ljava/lang/Object;I)V"⟩, 3) := ⟨⟨by decide +kernel, by decide +kernel⟩, List.mem_of_getElem? (i := 32) (by decide +kernel), List.mem_of_getElem? (i := 302) (by decide +kernel), List.mem_of_getElem? (i := 303) (by decide +kernel)⟩
theorem lw_p6 : lw_okq (⟨"java/util/ArrayList", "grow", "()[Ljava/lang/Object;"⟩, 3) := ⟨⟨by decide +kernel, by decide +kernel⟩, List.mem_of_getElem? (i := 32) (by decide +kernel), List.mem_of_getElem? (i := 306) (by decide +kernel), List.mem_of_getElem? (i := 307) (by decide +kernel)⟩
theorem lw_p7 : lw_okq (⟨"java/util/ArrayList", "grow", "(I)[Ljava/lang/Object;"⟩, 3) := ⟨⟨by decide +kernel, by decide +kernel⟩, List.mem_of_getElem? (i := 32) (by decide +kernel), List.mem_of_getElem? (i := 310) (by decide +kernel), List.mem_of_getElem? (i := 311) (by decide +kernel)⟩
theorem lw_p8 : lw_okq (⟨"LampRhythms$Pattern", "hasSecondsLater", "(LLampRhythms$Pattern;I)Z"⟩, 4) := ⟨⟨by decide +kernel, by decide +kernel⟩, List.mem_of_getElem? (i := 188) (by decide +kernel), List.mem_of_getElem? (i := 375) (by decide +kernel), List.mem_of_getElem? (i := 376) (by decide +kernel)⟩
theorem lw_p9 : lw_okq (⟨"LampRhythms", "tell", "(I)I"⟩, 6) := ⟨⟨by decide +kernel, by decide +kernel⟩, List.mem_of_getElem? (i := 24) (by decide +kernel), List.mem_of_getElem? (i := 435) (by decide +kernel), List.mem_of_getElem? (i := 436) (by decide +kernel)⟩
theorem lw_p10 : lw_okq (⟨"LampRhythms", "lampAt", "(I)LLampRhythms$Lamp;"⟩, 6) := ⟨⟨by decide +kernel, by decide +kernel⟩, List.mem_of_getElem? (i := 24) (by decide +kernel), List.mem_of_getElem? (i := 439) (by decide +kernel), List.mem_of_getElem? (i := 440) (by decide +kernel)⟩
theorem lw_p11 : lw_okq (⟨"LampRhythms", "requireLamp", "(I)V"⟩, 6) := ⟨⟨by decide +kernel, by decide +kernel⟩, List.mem_of_getElem? (i := 24) (by decide +kernel), List.mem_of_getElem? (i := 443) (by decide +kernel), List.mem_of_getElem? (i := 444) (by decide +kernel)⟩
theorem lw_p12 : lw_okq (⟨"LampRhythms", "isLit", "(LLampRhythms$Lamp;I)Z"⟩, 6) := ⟨⟨by decide +kernel, by decide +kernel⟩, List.mem_of_getElem? (i := 24) (by decide +kernel), List.mem_of_getElem? (i := 486) (by decide +kernel), List.mem_of_getElem? (i := 487) (by decide +kernel)⟩
theorem lw_p13 : lw_okq (⟨"LampRhythms", "putIn", "(LLampRhythms$Chart;I)V"⟩, 6) := ⟨⟨by decide +kernel, by decide +kernel⟩, List.mem_of_getElem? (i := 24) (by decide +kernel), List.mem_of_getElem? (i := 542) (by decide +kernel), List.mem_of_getElem? (i := 543) (by decide +kernel)⟩
theorem lw_p14 : lw_okq (⟨"LampRhythms", "chartAt", "(I)LLampRhythms$Chart;"⟩, 6) := ⟨⟨by decide +kernel, by decide +kernel⟩, List.mem_of_getElem? (i := 24) (by decide +kernel), List.mem_of_getElem? (i := 558) (by decide +kernel), List.mem_of_getElem? (i := 559) (by decide +kernel)⟩
theorem lw_p15 : lw_okq (⟨"LampRhythms", "lackOf", "(LLampRhythms$Chart;)I"⟩, 6) := ⟨⟨by decide +kernel, by decide +kernel⟩, List.mem_of_getElem? (i := 24) (by decide +kernel), List.mem_of_getElem? (i := 563) (by decide +kernel), List.mem_of_getElem? (i := 564) (by decide +kernel)⟩
def lw_privs_1 : List (MethodName × Nat) := [(⟨"LampRhythms", "clash", "(LLampRhythms$Lamp;LLampRhythms$Lamp;)Z"⟩, 6), (⟨"LampRhythms", "patternAt", "(I)LLampRhythms$Pattern;"⟩, 6), (⟨"LampRhythms", "requirePattern", "(I)V"⟩, 6), (⟨"java/lang/Throwable", "fillInStackTrace", "(I)Ljava/lang/Throwable;"⟩, 6), (⟨"LampRhythms$Pattern", "hasPhasesTurned", "(LLampRhythms$Pattern;I)Z"⟩, 4), (⟨"java/util/ArrayList", "add", "(Ljava/lang/Object;[Ljava/lang/Object;I)V"⟩, 3), (⟨"java/util/ArrayList", "grow", "()[Ljava/lang/Object;"⟩, 3), (⟨"java/util/ArrayList", "grow", "(I)[Ljava/lang/Object;"⟩, 3), (⟨"LampRhythms$Pattern", "hasSecondsLater", "(LLampRhythms$Pattern;I)Z"⟩, 4), (⟨"LampRhythms", "tell", "(I)I"⟩, 6), (⟨"LampRhythms", "lampAt", "(I)LLampRhythms$Lamp;"⟩, 6), (⟨"LampRhythms", "requireLamp", "(I)V"⟩, 6), (⟨"LampRhythms", "isLit", "(LLampRhythms$Lamp;I)Z"⟩, 6), (⟨"LampRhythms", "putIn", "(LLampRhythms$Chart;I)V"⟩, 6), (⟨"LampRhythms", "chartAt", "(I)LLampRhythms$Chart;"⟩, 6), (⟨"LampRhythms", "lackOf", "(LLampRhythms$Chart;)I"⟩, 6)]
theorem lw_r1 : ∀ q ∈ lw_privs_1, lw_okq q := List.forall_mem_cons.mpr ⟨lw_p0, List.forall_mem_cons.mpr ⟨lw_p1, List.forall_mem_cons.mpr ⟨lw_p2, List.forall_mem_cons.mpr ⟨lw_p3, List.forall_mem_cons.mpr ⟨lw_p4, List.forall_mem_cons.mpr ⟨lw_p5, List.forall_mem_cons.mpr ⟨lw_p6, List.forall_mem_cons.mpr ⟨lw_p7, List.forall_mem_cons.mpr ⟨lw_p8, List.forall_mem_cons.mpr ⟨lw_p9, List.forall_mem_cons.mpr ⟨lw_p10, List.forall_mem_cons.mpr ⟨lw_p11, List.forall_mem_cons.mpr ⟨lw_p12, List.forall_mem_cons.mpr ⟨lw_p13, List.forall_mem_cons.mpr ⟨lw_p14, List.forall_mem_cons.mpr ⟨lw_p15, fun _ h => absurd h List.not_mem_nil⟩⟩⟩⟩⟩⟩⟩⟩⟩⟩⟩⟩⟩⟩⟩⟩
theorem lw_p16 : lw_okq (⟨"LampRhythms", "lookAt", "(LLampRhythms$Lamp;II)J"⟩, 6) := ⟨⟨by decide +kernel, by decide +kernel⟩, List.mem_of_getElem? (i := 24) (by decide +kernel), List.mem_of_getElem? (i := 592) (by decide +kernel), List.mem_of_getElem? (i := 593) (by decide +kernel)⟩
theorem lw_p17 : lw_okq (⟨"LampRhythms$Pattern", "looksLike", "(JII)Z"⟩, 4) := ⟨⟨by decide +kernel, by decide +kernel⟩, List.mem_of_getElem? (i := 188) (by decide +kernel), List.mem_of_getElem? (i := 600) (by decide +kernel), List.mem_of_getElem? (i := 601) (by decide +kernel)⟩
theorem lw_p18 : lw_okq (⟨"LampRhythmsModel", "isPattern", "(I)Z"⟩, 20) := ⟨⟨by decide +kernel, by decide +kernel⟩, List.mem_of_getElem? (i := 604) (by decide +kernel), List.mem_of_getElem? (i := 691) (by decide +kernel), List.mem_of_getElem? (i := 692) (by decide +kernel)⟩
theorem lw_p19 : lw_okq (⟨"LampRhythmsModel", "asksAlike", "(II)Z"⟩, 20) := ⟨⟨by decide +kernel, by decide +kernel⟩, List.mem_of_getElem? (i := 604) (by decide +kernel), List.mem_of_getElem? (i := 699) (by decide +kernel), List.mem_of_getElem? (i := 700) (by decide +kernel)⟩
theorem lw_p20 : lw_okq (⟨"LampRhythmsModel", "alike", "(II)Z"⟩, 20) := ⟨⟨by decide +kernel, by decide +kernel⟩, List.mem_of_getElem? (i := 604) (by decide +kernel), List.mem_of_getElem? (i := 703) (by decide +kernel), List.mem_of_getElem? (i := 704) (by decide +kernel)⟩
theorem lw_p21 : lw_okq (⟨"LampRhythmsModel", "returns", "(I)I"⟩, 20) := ⟨⟨by decide +kernel, by decide +kernel⟩, List.mem_of_getElem? (i := 604) (by decide +kernel), List.mem_of_getElem? (i := 707) (by decide +kernel), List.mem_of_getElem? (i := 708) (by decide +kernel)⟩
theorem lw_p22 : lw_okq (⟨"LampRhythmsModel", "isLight", "(II)Z"⟩, 20) := ⟨⟨by decide +kernel, by decide +kernel⟩, List.mem_of_getElem? (i := 604) (by decide +kernel), List.mem_of_getElem? (i := 711) (by decide +kernel), List.mem_of_getElem? (i := 712) (by decide +kernel)⟩
theorem lw_p23 : lw_okq (⟨"LampRhythmsModel", "tells", "(I)I"⟩, 20) := ⟨⟨by decide +kernel, by decide +kernel⟩, List.mem_of_getElem? (i := 604) (by decide +kernel), List.mem_of_getElem? (i := 726) (by decide +kernel), List.mem_of_getElem? (i := 727) (by decide +kernel)⟩
theorem lw_p24 : lw_okq (⟨"LampRhythmsModel", "isLamp", "(I)Z"⟩, 20) := ⟨⟨by decide +kernel, by decide +kernel⟩, List.mem_of_getElem? (i := 604) (by decide +kernel), List.mem_of_getElem? (i := 734) (by decide +kernel), List.mem_of_getElem? (i := 735) (by decide +kernel)⟩
theorem lw_p25 : lw_okq (⟨"LampRhythmsModel", "isOn", "(II)Z"⟩, 20) := ⟨⟨by decide +kernel, by decide +kernel⟩, List.mem_of_getElem? (i := 604) (by decide +kernel), List.mem_of_getElem? (i := 747) (by decide +kernel), List.mem_of_getElem? (i := 748) (by decide +kernel)⟩
theorem lw_p26 : lw_okq (⟨"LampRhythmsModel", "asks", "(III)Z"⟩, 20) := ⟨⟨by decide +kernel, by decide +kernel⟩, List.mem_of_getElem? (i := 604) (by decide +kernel), List.mem_of_getElem? (i := 755) (by decide +kernel), List.mem_of_getElem? (i := 756) (by decide +kernel)⟩
theorem lw_p27 : lw_okq (⟨"LampRhythmsModel", "sectorOf", "(III)I"⟩, 20) := ⟨⟨by decide +kernel, by decide +kernel⟩, List.mem_of_getElem? (i := 604) (by decide +kernel), List.mem_of_getElem? (i := 759) (by decide +kernel), List.mem_of_getElem? (i := 760) (by decide +kernel)⟩
theorem lw_p28 : lw_okq (⟨"LampRhythmsModel", "sees", "(III)Z"⟩, 20) := ⟨⟨by decide +kernel, by decide +kernel⟩, List.mem_of_getElem? (i := 604) (by decide +kernel), List.mem_of_getElem? (i := 767) (by decide +kernel), List.mem_of_getElem? (i := 768) (by decide +kernel)⟩
theorem lw_p29 : lw_okq (⟨"LampRhythmsModel", "both", "(II)I"⟩, 20) := ⟨⟨by decide +kernel, by decide +kernel⟩, List.mem_of_getElem? (i := 604) (by decide +kernel), List.mem_of_getElem? (i := 775) (by decide +kernel), List.mem_of_getElem? (i := 776) (by decide +kernel)⟩
theorem lw_p30 : lw_okq (⟨"LampRhythmsModel", "puts", "(II)I"⟩, 20) := ⟨⟨by decide +kernel, by decide +kernel⟩, List.mem_of_getElem? (i := 604) (by decide +kernel), List.mem_of_getElem? (i := 791) (by decide +kernel), List.mem_of_getElem? (i := 792) (by decide +kernel)⟩
theorem lw_p31 : lw_okq (⟨"LampRhythmsModel", "isChart", "(I)Z"⟩, 20) := ⟨⟨by decide +kernel, by decide +kernel⟩, List.mem_of_getElem? (i := 604) (by decide +kernel), List.mem_of_getElem? (i := 799) (by decide +kernel), List.mem_of_getElem? (i := 800) (by decide +kernel)⟩
def lw_privs_2 : List (MethodName × Nat) := [(⟨"LampRhythms", "lookAt", "(LLampRhythms$Lamp;II)J"⟩, 6), (⟨"LampRhythms$Pattern", "looksLike", "(JII)Z"⟩, 4), (⟨"LampRhythmsModel", "isPattern", "(I)Z"⟩, 20), (⟨"LampRhythmsModel", "asksAlike", "(II)Z"⟩, 20), (⟨"LampRhythmsModel", "alike", "(II)Z"⟩, 20), (⟨"LampRhythmsModel", "returns", "(I)I"⟩, 20), (⟨"LampRhythmsModel", "isLight", "(II)Z"⟩, 20), (⟨"LampRhythmsModel", "tells", "(I)I"⟩, 20), (⟨"LampRhythmsModel", "isLamp", "(I)Z"⟩, 20), (⟨"LampRhythmsModel", "isOn", "(II)Z"⟩, 20), (⟨"LampRhythmsModel", "asks", "(III)Z"⟩, 20), (⟨"LampRhythmsModel", "sectorOf", "(III)I"⟩, 20), (⟨"LampRhythmsModel", "sees", "(III)Z"⟩, 20), (⟨"LampRhythmsModel", "both", "(II)I"⟩, 20), (⟨"LampRhythmsModel", "puts", "(II)I"⟩, 20), (⟨"LampRhythmsModel", "isChart", "(I)Z"⟩, 20)]
theorem lw_r2 : ∀ q ∈ lw_privs_2, lw_okq q := List.forall_mem_cons.mpr ⟨lw_p16, List.forall_mem_cons.mpr ⟨lw_p17, List.forall_mem_cons.mpr ⟨lw_p18, List.forall_mem_cons.mpr ⟨lw_p19, List.forall_mem_cons.mpr ⟨lw_p20, List.forall_mem_cons.mpr ⟨lw_p21, List.forall_mem_cons.mpr ⟨lw_p22, List.forall_mem_cons.mpr ⟨lw_p23, List.forall_mem_cons.mpr ⟨lw_p24, List.forall_mem_cons.mpr ⟨lw_p25, List.forall_mem_cons.mpr ⟨lw_p26, List.forall_mem_cons.mpr ⟨lw_p27, List.forall_mem_cons.mpr ⟨lw_p28, List.forall_mem_cons.mpr ⟨lw_p29, List.forall_mem_cons.mpr ⟨lw_p30, List.forall_mem_cons.mpr ⟨lw_p31, fun _ h => absurd h List.not_mem_nil⟩⟩⟩⟩⟩⟩⟩⟩⟩⟩⟩⟩⟩⟩⟩⟩
theorem lw_p32 : lw_okq (⟨"LampRhythmsModel", "could", "(IIII)Z"⟩, 20) := ⟨⟨by decide +kernel, by decide +kernel⟩, List.mem_of_getElem? (i := 604) (by decide +kernel), List.mem_of_getElem? (i := 815) (by decide +kernel), List.mem_of_getElem? (i := 816) (by decide +kernel)⟩
def lw_privs_3 : List (MethodName × Nat) := [(⟨"LampRhythmsModel", "could", "(IIII)Z"⟩, 20)]
theorem lw_r3 : ∀ q ∈ lw_privs_3, lw_okq q := List.forall_mem_cons.mpr ⟨lw_p32, fun _ h => absurd h List.not_mem_nil⟩
def lw_privs : List (MethodName × Nat) := lw_privs_1 ++ (lw_privs_2 ++ (lw_privs_3))
def lw_tbl : List Cond := k2_sels lw_privs ++ tables_1
theorem lw_privs_ok : ∀ q ∈ lw_privs, lw_okq q := by
  show ∀ q ∈ lw_privs_1 ++ (lw_privs_2 ++ (lw_privs_3)), lw_okq q
  exact List.forall_mem_append.mpr ⟨lw_r1, List.forall_mem_append.mpr ⟨lw_r2, lw_r3⟩⟩
end
section
/-! ===== BEGIN words of one list among another's, by their places ===== -/
theorem goodIn_r {big : List Cond} (ws : List Cond) (ps : List Nat) (hp : ws = ps.filterMap (fun i => big[i]?)) (h : ws.all goodWord = true) : GoodIn big ws := by
  intro w hw
  have h1 := List.all_eq_true.mp h w hw
  rw [hp] at hw
  obtain ⟨i, -, hi⟩ := List.mem_filterMap.mp hw
  have hm : w ∈ big := by first | exact List.mem_of_getElem? hi | exact List.getElem?_mem hi
  exact ⟨hm, good_of_word h1⟩
theorem goodIn_app {big a b : List Cond} (ha : GoodIn big a) (hb : GoodIn big b) : GoodIn big (a ++ b) := fun w h => (List.mem_append.mp h).elim (ha w) (hb w)
theorem goodIn_ca {big a b : List Cond} {c : Cond} (ha : GoodIn big (c :: a)) (hb : GoodIn big b) : GoodIn big (c :: (a ++ b)) := fun w h => (List.mem_cons.mp h).elim (fun e => ha w (List.mem_cons.mpr (Or.inl e))) (fun h => (List.mem_append.mp h).elim (fun h => ha w (List.mem_cons.mpr (Or.inr h))) (hb w))
theorem goodIn_sub {big ws : List Cond} (hm : ∀ w ∈ ws, w ∈ big) (h : ws.all goodWord = true) : GoodIn big ws := fun w hw => ⟨hm w hw, good_of_word (List.all_eq_true.mp h w hw)⟩
/-! ===== END ===== -/

/-! ===== BEGIN exceptions that leave a method, and their catching by the caller (launches without stack traces) ===== -/
section VXA
/-! The laws vx_back, vx_callV, vx_callS, vx_callSW, vx_throw0, vx_throwS follow proofs of the library, with one case more: JvmDerived/Free/Laws.lean (Back.of_free), Shelf42/LK1.lean (callV, callS), Shelf/KitTraced.lean (throwNew0V, throwNewS). -/
/-- where a method has thrown q: the class by its name, the cell, what was written, the world -/
def vx_T (XC : String → State → State → Prop) (st : State) (q : Addr) (t : State) (mc ms : Nat) (free : Addr → Prop) : Prop :=
  ∃ (E : String) (ce : Cell) (L : List Loc), XC E st t ∧ t.heap[q]? = some ce ∧ ce.vm = .none ∧ st.vm.findClass E = some ce.cls ∧ st.WarmedH t.vm ∧ st.sameButNew ({ t with vm := st.vm } : State) L mc ms ∧ ∀ z ∈ L, free z.base
def vx_Q (Qc : Array Value → State → Outcome → State → Prop) (XC : String → State → State → Prop) (mc ms : Nat) (free : Addr → Prop) : Array Value → State → Outcome → State → Prop := fun a st o t =>
  (Qc a st o t ∧ ∃ L, FrameEnd st o t L mc ms ∧ ∀ q ∈ L, free q.base) ∨ ∃ q, o = .threw q ∧ vx_T XC st q t mc ms free
/-- a callee that returns or throws -/
def vx_Met (l : Launch) (y : MethodName) (ws : List Cond) (rm : Room) (Pc : Array Value → State → Prop) (Qc : Array Value → State → Outcome → State → Prop) (XC : String → State → State → Prop) (mc ms : Nat) (free : Addr → Prop) : Prop :=
  MetFree l y (headSpec ws rm) Pc (fun _ _ _ _ _ => True) (vx_Q Qc XC mc ms free)
def vx_Post (XC : String → State → State → Prop) (mc ms : Nat) (free : Addr → Prop) : Pt → Array Value → Addr → Pt → Prop := fun A a q B =>
  ∃ (g : JFrame) (mk : MethodId) (t : State) (L : List Loc) (E : String) (ce : Cell), B.U.heap = t.heap ∧ B.U.vm = t.vm ∧ XC E (A.U.calling g mk a) t ∧ t.heap[q]? = some ce ∧ ce.vm = .none ∧ A.U.vm.findClass E = some ce.cls ∧ B.locs = A.locs ++ L ∧ (∀ z ∈ L, free z.base) ∧ B.cells = A.cells + mc ∧ B.slots = A.slots + ms
def vx_Back (l : Launch) (R : Room) (p : Program) (e : Env) (below : List Frame) (s : State) (sargs : Array Value) (y : MethodName) (len W9 : Nat)
    (Pre : Pt → Array Value → Prop) (Post : Pt → Array Value → Option Value → Pt → Prop) (PostX : Pt → Array Value → Addr → Pt → Prop) : Prop :=
  ∀ (m : MethodId) (meth : Method) (c : Code) (A : Pt) (g : JFrame) (ig : Instr) (mk : MethodId) (a : Array Value),
    Stand p l e R s m sargs below meth c A.U A.locs A.cells A.slots → g.method = m → g.locals.size = c.maxLocals → decode c.code g.pc = .ok (ig, len) →
    2 * g.monitorRoom + (g.stack.map fun v => v.category).sum ≤ W9 → A.U.methodNamed? y = some mk → Pre A a →
    (∃ (v : Option Value) (B : Pt), Stand p l e R s m sargs below meth c B.U B.locs B.cells B.slots ∧ Post A a v B ∧
      Steps p.tables e below (doInvoke e (A.U.setTop g) [] mk a).1 (B.U.setTop { g with pc := g.pc + len, stack := v.toList ++ g.stack })) ∨
    (∃ (q : Addr) (B : Pt), Stand p l e R s m sargs below meth c B.U B.locs B.cells B.slots ∧ PostX A a q B ∧
      Steps p.tables e below (doInvoke e (A.U.setTop g) [] mk a).1 ((B.U.setTop g).pushFrame (.throwing q)))
section Payer
variable {l : Launch} {R : Room} {p : Program} {e : Env} {below : List Frame} {s : State} {sargs : Array Value} {y : MethodName} {len W9 : Nat}
theorem vx_back {ws : List Cond} {rm : Room} {Pc : Array Value → State → Prop} {Qc : Array Value → State → Outcome → State → Prop} {XC : String → State → State → Prop} {mc ms : Nat} {free : Addr → Prop} {bytes : ByteArray} {maxL : Nat} {ret : Option FieldType}
    (hM : vx_Met l y ws rm Pc Qc XC mc ms free) (hblind : FrameBlind Pc) (hrc : rm.cells = mc) (hrs : rm.slots = ms)
    (hframes : rm.frames + 1 ≤ R.frames) (hlocals : W9 + (maxL + 11) + rm.locals ≤ R.locals)
    (hws : ∀ w ∈ ws, ∀ a' U, s.WarmedH U.vm → w.before a' U = true) (hcode : Cond.code y bytes maxL ret ∈ ws) (hinit : ∀ a' U, s.WarmedH U.vm → (Cond.initialized y.cls).before a' U = true) :
    vx_Back l R p e below s sargs y len W9 (PreOf R mc ms Pc) (PostOf Qc mc ms free) (vx_Post XC mc ms free) := by
  intro m meth c A g ig mk a X hg hsize hdg hW hn hp
  have h1 : (headSpec ws rm).pre.before a A.U = true := atoms_intro fun w hw => hws w hw _ _ X.warmed
  have h2 : (Cond.code y bytes maxL ret).before a A.U = true := hws _ hcode _ _ X.warmed
  have h3 : (Cond.initialized y.cls).before a A.U = true := hinit _ _ X.warmed
  have h4 : A.cells + (headSpec ws rm).room.cells ≤ R.cells := by rw [show (headSpec ws rm).room.cells = mc from hrc]; exact hp.1
  have h5 : A.slots + (headSpec ws rm).room.slots ≤ R.slots := by rw [show (headSpec ws rm).room.slots = ms from hrs]; exact hp.2.1
  have hPc : Pc a (A.U.calling g mk a) := hblind _ _ _ _ hp.2.2
  obtain ⟨U, Ls, c0, s0⟩ := A
  dsimp only [Pt.U, Pt.locs, Pt.cells, Pt.slots] at h1 h2 h3 h4 h5 X hn hPc ⊢
  obtain ⟨methY, cY, hmY, hcY, -, hlY, -, -, -, -⟩ := Cond.code_spec hn h2
  obtain ⟨kY, hkY, -⟩ := className_of_methodNamed hn
  have hinitY : kY.init = .initialized := Cond.initialized_spec (findClass_of_methodNamed hn) hkY h3
  have h : At U g.method c below := by rw [hg]; exact X.here
  have hlocals9 : W9 + (maxL + 11) + (headSpec ws rm).room.locals ≤ R.locals := hlocals
  have happ : (headSpec ws rm).appliesLoose y e.platform (U.calling g mk a) = true :=
    Spec.appliesLoose_calling (g := g) h hdg hn hkY hinitY
      (X.room_calling (g := g) (R' := (headSpec ws rm).room) hsize hmY hcY hframes (by rw [hlY]; omega) h4 h5) h1
  obtain ⟨mid, hmid⟩ := h.above
  have hfr : (U.setTop g).frames = (.java g :: mid) ++ below := by rw [State.frames_setTop' g h.top, hmid]; rfl
  obtain ⟨o, s₂, hsteps, -, hend, hq⟩ := Steps.callFree hM p X.admits X.cas X.clock (acts := []) hfr happ hPc trivial
  have hq' : vx_Q Qc XC mc ms free a (U.calling g mk a) o s₂ := hq
  rw [State.frames_setTop' g h.top] at hend
  obtain ⟨g₀, hg0⟩ := Option.isSome_iff_exists.mp h.top
  obtain ⟨r, hr⟩ := State.topJava?_eq_some.mp hg0
  have hr' : (({ U with heap := s₂.heap, slotsUsed := s₂.slotsUsed } : State).setVm s₂.vm).frames = .java g₀ :: r := hr
  rcases hq' with ⟨hqc, L, hfe, hL⟩ | ⟨q, rfl, E, ce, L, hx, hce, hcv, hcl, hW₂, hsm, hL⟩
  · obtain ⟨⟨v, rfl⟩, hW₂, e2, q2, q3, q4, q5, q6⟩ := id hfe
    have e3 : s₂ = ({ (U.calling g mk a).setFrames s₂.frames with heap := s₂.heap, slotsUsed := s₂.slotsUsed } : State).setVm s₂.vm := by
      have : s₂ = ({ s₂ with vm := (U.calling g mk a).vm } : State).setVm s₂.vm := rfl
      rw [e2] at this
      exact this
    obtain ⟨c₂, i₂, len₂, hc₂, hd₂, hf₂⟩ := hend
    have hW' : U.WarmedH s₂.vm := hW₂
    have hcc : c₂ = c := by
      have h1 : s₂.code? g.method = U.code? g.method := by
        rw [State.code?_eq, State.code?_eq, hW'.alike.method?]
      exact Option.some.inj (hc₂.symm.trans (h1.trans h.code))
    subst hcc
    have hlen : len₂ = len := by rw [hdg] at hd₂; cases hd₂; rfl
    subst hlen
    have hs₂ : s₂ = (({ U with heap := s₂.heap, slotsUsed := s₂.slotsUsed } : State).setVm s₂.vm).setTop { g with pc := g.pc + len₂, stack := v.toList ++ g.stack } := by
      refine e3.trans ?_
      rw [hf₂, State.calling_eq h.top, State.setFrames_setFrames, State.setTop_of_frames _ hr', hr]
      rfl
    have hsame : U.sameButNew ({ U with heap := s₂.heap, slotsUsed := s₂.slotsUsed } : State) L mc ms := by
      refine ⟨?_, q2, q3, q4, q5, q6⟩
      obtain ⟨t, ht, -⟩ := State.frames_cons hr
      show ({ U with heap := s₂.heap, slotsUsed := s₂.slotsUsed } : State) = { U.setFrames U.frames with heap := s₂.heap, slotsUsed := s₂.slotsUsed }
      rw [State.setFrames_self ht]
    subst hg
    refine Or.inl ⟨v, ⟨(({ U with heap := s₂.heap, slotsUsed := s₂.slotsUsed } : State).setVm s₂.vm), Ls ++ L, c0 + mc, s0 + ms⟩,
      ⟨X.admits, X.cas, X.clock, X.frames, X.room, X.hears, X.method, X.code, (X.here.setHeapUsed s₂.heap s₂.slotsUsed).setVm hW'.alike, X.tail, State.WarmedH.trans X.warmed hW', X.limits, X.bytes, X.same.trans (hsame.setVm s.vm)⟩,
      ⟨g, mk, s₂, L, rfl, rfl, hqc, rfl, hL, rfl, rfl⟩, ?_⟩
    show Steps p.tables e below _ ((({ U with heap := s₂.heap, slotsUsed := s₂.slotsUsed } : State).setVm s₂.vm).setTop { g with pc := g.pc + len₂, stack := v.toList ++ g.stack })
    rw [← hs₂]
    exact hsteps
  · obtain ⟨e2, q2, q3, q4, q5, q6⟩ := id hsm
    have e3 : s₂ = ({ (U.calling g mk a).setFrames s₂.frames with heap := s₂.heap, slotsUsed := s₂.slotsUsed } : State).setVm s₂.vm := by
      have : s₂ = ({ s₂ with vm := (U.calling g mk a).vm } : State).setVm s₂.vm := rfl
      rw [e2] at this
      exact this
    have hf₂ : s₂.frames = .throwing q :: .java g :: U.frames.tail := hend
    have hW' : U.WarmedH s₂.vm := hW₂
    have hs₂ : s₂ = ((({ U with heap := s₂.heap, slotsUsed := s₂.slotsUsed } : State).setVm s₂.vm).setTop g).pushFrame (.throwing q) := by
      refine e3.trans ?_
      rw [hf₂, State.calling_eq h.top, State.setFrames_setFrames, State.pushFrame, State.frames_setTop _ hr', State.setTop_of_frames _ hr', State.setFrames_setFrames, hr]
      rfl
    have hsame : U.sameButNew ({ U with heap := s₂.heap, slotsUsed := s₂.slotsUsed } : State) L mc ms := by
      refine ⟨?_, q2, q3, q4, q5, q6⟩
      obtain ⟨t, ht, -⟩ := State.frames_cons hr
      show ({ U with heap := s₂.heap, slotsUsed := s₂.slotsUsed } : State) = { U.setFrames U.frames with heap := s₂.heap, slotsUsed := s₂.slotsUsed }
      rw [State.setFrames_self ht]
    subst hg
    refine Or.inr ⟨q, ⟨(({ U with heap := s₂.heap, slotsUsed := s₂.slotsUsed } : State).setVm s₂.vm), Ls ++ L, c0 + mc, s0 + ms⟩,
      ⟨X.admits, X.cas, X.clock, X.frames, X.room, X.hears, X.method, X.code, (X.here.setHeapUsed s₂.heap s₂.slotsUsed).setVm hW'.alike, X.tail, State.WarmedH.trans X.warmed hW', X.limits, X.bytes, X.same.trans (hsame.setVm s.vm)⟩,
      ⟨g, mk, s₂, L, E, ce, rfl, rfl, hx, hce, hcv, hcl, rfl, hL, rfl, rfl⟩, ?_⟩
    show Steps p.tables e below _ (((({ U with heap := s₂.heap, slotsUsed := s₂.slotsUsed } : State).setVm s₂.vm).setTop g).pushFrame (.throwing q))
    rw [← hs₂]
    exact hsteps
end Payer
section Calls
variable {p : Program} {l : Launch} {e : Env} {R : Room} {s : State} {m : MethodId} {args : Array Value} {below : List Frame} {meth : Method} {c : Code} {T : State} {locs : List Loc} {cells slots : Nat}
theorem vx_callV (X : Stand p l e R s m args below meth c T locs cells slots) (hexec : p.tables.exec = Jvm.exec) {own C : String} {index : Nat} {y : MethodName} {bytes : ByteArray} {maxL : Nat} {ret : Option FieldType}
    (hown : s.vm.findClass own = some m.cls) (hlink : (Cond.methodLink own index y).before args s = true) (hinst : (Cond.instanceMethod y).before args s = true) (hsel : (Cond.selects C y y).before args s = true)
    (hcode : (Cond.code y bytes maxL ret).before args s = true) (hy : y.cls ≠ "java/lang/invoke/MethodHandle" ∧ y.cls ≠ "java/lang/invoke/VarHandle")
    {W9 : Nat} {Pre : Pt → Array Value → Prop} {Post : Pt → Array Value → Option Value → Pt → Prop} {PostX : Pt → Array Value → Addr → Pt → Prop} (hK : vx_Back l R p e below s args y 3 W9 Pre Post PostX)
    {b : Addr} {cellB : Cell} (hcell : T.heap[b]? = some cellB) (hobj : cellB.vm.isStatics = false) (hcls : s.vm.findClass C = some cellB.cls)
    {g : JFrame} (hg : g.method = m) (hsize : g.locals.size = c.maxLocals) {argsL rest : List Value} (hlen : ∀ sig, parseMethodDescriptor y.desc = some sig → argsL.length = sig.parameters.length)
    (hstack : g.stack = argsL.reverse ++ .ref b :: rest) (hW : 2 * g.monitorRoom + (rest.map fun v => v.category).sum ≤ W9) (hdg : decode c.code g.pc = .ok (.invokevirtual index, 3))
    (hpre : ∀ vm₁, s.WarmedH vm₁ → Pre ⟨T.setVm vm₁, locs, cells, slots⟩ (Value.ref b :: argsL).toArray) :
    (∃ (v : Option Value) (vm₁ : Vm) (B : Pt), s.WarmedH vm₁ ∧ Stand p l e R s m args below meth c B.U B.locs B.cells B.slots ∧ Post ⟨T.setVm vm₁, locs, cells, slots⟩ (Value.ref b :: argsL).toArray v B ∧
      ∀ target, Steps p.tables e below (B.U.setTop { g with pc := g.pc + 3, stack := v.toList ++ rest }) target → Steps p.tables e below (T.setTop g) target) ∨
    (∃ (q : Addr) (vm₁ : Vm) (B : Pt), s.WarmedH vm₁ ∧ Stand p l e R s m args below meth c B.U B.locs B.cells B.slots ∧ PostX ⟨T.setVm vm₁, locs, cells, slots⟩ (Value.ref b :: argsL).toArray q B ∧
      Steps p.tables e below (T.setTop g) ((B.U.setTop { g with stack := rest }).pushFrame (.throwing q))) := by
  obtain ⟨mk, methM, hnamed, hmethM, hstM, habM⟩ := Cond.instanceMethod_spec hinst
  obtain ⟨methM', cM, hmethM', -, -, -, -, -, -, hsigM⟩ := Cond.code_spec hnamed hcode
  cases hmethM.symm.trans hmethM'
  obtain ⟨c2, r2, m2, q1, q2, q3, q4, kP, hkP, hkPi⟩ := Cond.selects_spec hsel
  cases hcls.symm.trans q1
  cases (State.methodFound?_of_named hnamed hy).symm.trans q2
  cases hnamed.symm.trans q3
  have hselP : selectMethod e.platform s.vm cellB.cls mk = .method mk := by rw [Launch.admits_selectMethod X.admits]; exact q4
  obtain ⟨vm₁, X₁, hstep₁⟩ := X.invokevirtual hexec hown hlink hnamed hmethM hstM hkP hkPi hy (a := b) (cell := cellB) hcell
    (fun z h => by rw [h] at hobj; cases hobj) hselP hmethM habM hkP hkPi (g := g) hg (argsL := argsL) (rest := rest) (hlen _ hsigM) hstack hdg
  rcases hK m meth c ⟨T.setVm vm₁, locs, cells, slots⟩ { g with stack := rest } (.invokevirtual index) mk (Value.ref b :: argsL).toArray X₁ hg hsize hdg hW (X₁.named hnamed) (hpre vm₁ X₁.warmed) with ⟨v, B, X', hpost, hsteps⟩ | ⟨q, B, X', hpost, hsteps⟩
  · exact Or.inl ⟨v, vm₁, B, X₁.warmed, X', hpost, fun target h => hstep₁ _ fun acts => by rw [doInvoke_state]; exact hsteps.trans h⟩
  · exact Or.inr ⟨q, vm₁, B, X₁.warmed, X', hpost, hstep₁ _ fun acts => by rw [doInvoke_state]; exact hsteps⟩
theorem vx_callS (X : Stand p l e R s m args below meth c T locs cells slots) (hexec : p.tables.exec = Jvm.exec) {own : String} {index : Nat} {y : MethodName} {bytes : ByteArray} {maxL : Nat} {ret : Option FieldType}
    (hown : s.vm.findClass own = some m.cls) (hlink : (Cond.methodLink own index y).before args s = true) (hstat : (Cond.static y).before args s = true) (hinit : (Cond.initialized y.cls).before args s = true)
    (hcode : (Cond.code y bytes maxL ret).before args s = true) (hy : y.cls ≠ "java/lang/invoke/MethodHandle" ∧ y.cls ≠ "java/lang/invoke/VarHandle")
    {W9 : Nat} {Pre : Pt → Array Value → Prop} {Post : Pt → Array Value → Option Value → Pt → Prop} {PostX : Pt → Array Value → Addr → Pt → Prop} (hK : vx_Back l R p e below s args y 3 W9 Pre Post PostX)
    {g : JFrame} (hg : g.method = m) (hsize : g.locals.size = c.maxLocals) {argsL rest : List Value} (hlen : ∀ sig, parseMethodDescriptor y.desc = some sig → argsL.length = sig.parameters.length)
    (hstack : g.stack = argsL.reverse ++ rest) (hW : 2 * g.monitorRoom + (rest.map fun v => v.category).sum ≤ W9) (hdg : decode c.code g.pc = .ok (.invokestatic index, 3))
    (hpre : ∀ vm₁, s.WarmedH vm₁ → Pre ⟨T.setVm vm₁, locs, cells, slots⟩ argsL.toArray) :
    (∃ (v : Option Value) (vm₁ : Vm) (B : Pt), s.WarmedH vm₁ ∧ Stand p l e R s m args below meth c B.U B.locs B.cells B.slots ∧ Post ⟨T.setVm vm₁, locs, cells, slots⟩ argsL.toArray v B ∧
      ∀ target, Steps p.tables e below (B.U.setTop { g with pc := g.pc + 3, stack := v.toList ++ rest }) target → Steps p.tables e below (T.setTop g) target) ∨
    (∃ (q : Addr) (vm₁ : Vm) (B : Pt), s.WarmedH vm₁ ∧ Stand p l e R s m args below meth c B.U B.locs B.cells B.slots ∧ PostX ⟨T.setVm vm₁, locs, cells, slots⟩ argsL.toArray q B ∧
      Steps p.tables e below (T.setTop g) ((B.U.setTop { g with stack := rest }).pushFrame (.throwing q))) := by
  obtain ⟨mk, hnamed⟩ := Cond.code_named hcode
  obtain ⟨methM, cM, hmethM, -, -, -, -, -, -, hsigM⟩ := Cond.code_spec hnamed hcode
  have hstatic : methM.isStatic = true := Cond.static_spec hnamed hmethM hstat
  obtain ⟨kP, hkP, -⟩ := className_of_methodNamed hnamed
  have hinitP : kP.init = .initialized := Cond.initialized_spec (findClass_of_methodNamed hnamed) hkP hinit
  obtain ⟨vm₁, X₁, hstep₁⟩ := X.invokestatic hexec hown hlink hnamed hmethM hstatic hkP hinitP hy (g := g) hg (argsL := argsL) (rest := rest) (hlen _ hsigM) hstack hdg
  rcases hK m meth c ⟨T.setVm vm₁, locs, cells, slots⟩ { g with stack := rest } (.invokestatic index) mk argsL.toArray X₁ hg hsize hdg hW (X₁.named hnamed) (hpre vm₁ X₁.warmed) with ⟨v, B, X', hpost, hsteps⟩ | ⟨q, B, X', hpost, hsteps⟩
  · exact Or.inl ⟨v, vm₁, B, X₁.warmed, X', hpost, fun target h => hstep₁ _ fun acts => by rw [doInvoke_state]; exact hsteps.trans h⟩
  · exact Or.inr ⟨q, vm₁, B, X₁.warmed, X', hpost, hstep₁ _ fun acts => by rw [doInvoke_state]; exact hsteps⟩
end Calls
theorem vx_cls {s : State} {T : State} {vm₁ : Vm} {E : String} {k : ClassId} (hW : s.WarmedH vm₁) (h : (T.setVm vm₁).vm.findClass E = some k) : s.vm.findClass E = some k := by
  have h1 : vm₁.findClass E = some k := h
  rw [hW.alike.findClass] at h1
  exact h1
/-- the method's frame g, with q thrown over it -/
def vx_W (p : Program) (l : Launch) (e : Env) (R : Room) (s : State) (m : MethodId) (args : Array Value) (below : List Frame) (meth : Method) (c : Code) (H : Heap) (locs : List Loc) (cells slots : Nat) (Q : State → Prop) (g : JFrame) (q : Addr) : Prop :=
  ∀ T : State, T.heap = H → Stand p l e R s m args below meth c T locs cells slots → ∃ t, Steps p.tables e below ((T.setTop g).pushFrame (.throwing q)) t ∧ Q t
def vx_Run (p : Program) (l : Launch) (e : Env) (R : Room) (s : State) (m : MethodId) (args : Array Value) (below : List Frame) (meth : Method) (c : Code) (H : Heap) (locs : List Loc) (cells slots mc ms : Nat) (g : JFrame) (rest : List Value) (Qa : State → Outcome → State → Prop) (XC : String → State → State → Prop) (free : Addr → Prop) : Prop :=
  ∀ T : State, T.heap = H → Stand p l e R s m args below meth c T locs cells slots →
    (∃ (v : Option Value) (st₀ t T' : State) (L : List Loc), st₀.heap = H ∧ Stand p l e R s m args below meth c T' (locs ++ L) (cells + mc) (slots + ms) ∧ (∀ q ∈ L, free q.base) ∧ T'.heap = t.heap ∧ T'.vm = t.vm ∧ Qa st₀ (.returned v) t ∧
      Goes p e below T g T' { g with pc := g.pc + 3, stack := v.toList ++ rest }) ∨
    (∃ (q : Addr) (st₀ t T' : State) (L : List Loc) (E : String) (ce : Cell), st₀.heap = H ∧ Stand p l e R s m args below meth c T' (locs ++ L) (cells + mc) (slots + ms) ∧ (∀ z ∈ L, free z.base) ∧ T'.heap = t.heap ∧ T'.vm = t.vm ∧ XC E st₀ t ∧ t.heap[q]? = some ce ∧ ce.vm = .none ∧ s.vm.findClass E = some ce.cls ∧
      Steps p.tables e below (T.setTop g) ((T'.setTop { g with stack := rest }).pushFrame (.throwing q)))
def vx_X {S : Type} (px : S → Prop) (B : String → S → State → Prop) (A : Nat → Prop) : String → State → State → Prop := fun E st t => ∃ u : S, px u ∧ B E u t ∧ va_F A st t
section Runs
variable {p : Program} {l : Launch} {e : Env} {R : Room} {s : State} {m : MethodId} {args : Array Value} {below : List Frame} {meth : Method} {c : Code} {H : Heap} {locs : List Loc} {cells slots : Nat}
variable {y : MethodName} {bytes cc : ByteArray} {maxL nL mc ms n index : Nat} {ret : Option FieldType} {ws : List Cond} {rm : Room} {Pc : Array Value → State → Prop} {Qc : Array Value → State → Outcome → State → Prop} {XC : String → State → State → Prop} {free : Addr → Prop} {Ts : List Cond} {own C : String} {b : Addr} {As rest : List Value} {g : JFrame}
theorem vx_callBack (cb : CallB R s args own index y bytes maxL ret ws rm mc ms n) (hM : vx_Met l y ws rm Pc Qc XC mc ms free) (hbl : FrameBlind Pc) : vx_Back l R p e below s args y 3 8 (PreOf R mc ms Pc) (PostOf Qc mc ms free) (vx_Post XC mc ms free) := by
  obtain ⟨hrc, hrs, hfr, hlo, hws, hcw, -, hini, -⟩ := cb
  exact vx_back (bytes := bytes) (maxL := maxL) (ret := ret) hM hbl hrc hrs hfr hlo hws hcw (fun a' U hW => word_at hW (Or.inl (by first | rfl | simp [Cond.onTables, Cond.keeps, Cond.steady])) hini)
theorem vx_runV (S : CallFix p m c cc nL s args Ts own) (hM : vx_Met l y ws rm Pc Qc XC mc ms free) (cw : CallW R s args own C index y bytes maxL ret ws rm mc ms n) (hp : PreV s H C b Pc As)
    (hg : g.method = m) (hn : As.length = n) (hsize : g.locals.size = nL) (hstack : g.stack = As.reverse ++ .ref b :: rest) (hW : 2 * g.monitorRoom + (rest.map fun v => v.category).sum ≤ 8) (hdg : decode cc g.pc = .ok (.invokevirtual index, 3)) (hf : cells + mc ≤ R.cells ∧ slots + ms ≤ R.slots) :
    vx_Run p l e R s m args below meth c H locs cells slots mc ms g rest (Qc (Value.ref b :: As).toArray) XC free := by
  have hK : vx_Back l R p e below s args y 3 8 (PreOf R mc ms Pc) (PostOf Qc mc ms free) (vx_Post XC mc ms free) := vx_callBack cw.1 hM hp.1
  obtain ⟨⟨-, -, -, -, -, -, hcode, -, hy, hlen, hl⟩, hin, hse⟩ := cw
  obtain ⟨hx, hb, hml, ho, -⟩ := S
  obtain ⟨-, ⟨cellB, hcB, hoB, hclB⟩, hPc⟩ := hp
  intro T hT X
  rcases vx_callV X hx (C := C) (bytes := bytes) (maxL := maxL) (ret := ret) ho hl hin hse hcode hy hK (by rw [hT]; exact hcB) hoB hclB hg (hsize.trans hml.symm) (argsL := As) (rest := rest) (fun sig h => hn.trans (hlen sig h)) hstack hW (by rw [hb]; exact hdg)
    (fun vm₁ hW₁ => ⟨hf.1, hf.2, hPc (T.setVm vm₁) hT hW₁⟩) with ⟨v, vm₁, ⟨U', l2, c2, s2⟩, hW₁, X', ⟨g', mk, t, L, e1, e2, hq, h1, hL, h2, h3⟩, st⟩ | ⟨q, vm₁, ⟨U', l2, c2, s2⟩, hW₁, X', ⟨g', mk, t, L, E, ce, e1, e2, hq, hce, hcv, hcl, h1, hL, h2, h3⟩, st⟩
  · dsimp only [Pt.U, Pt.locs, Pt.cells, Pt.slots] at X' e1 e2 h1 h2 h3 st
    subst h1; subst h2; subst h3
    exact Or.inl ⟨v, (T.setVm vm₁).calling g' mk (Value.ref b :: As).toArray, t, U', L, hT, X', hL, e1, e2, hq, st⟩
  · dsimp only [Pt.U, Pt.locs, Pt.cells, Pt.slots] at X' e1 e2 h1 h2 h3 st hcl
    subst h1; subst h2; subst h3
    exact Or.inr ⟨q, (T.setVm vm₁).calling g' mk (Value.ref b :: As).toArray, t, U', L, E, ce, hT, X', hL, e1, e2, hq, hce, hcv, vx_cls hW₁ hcl, st⟩
theorem vx_runS (S : CallFix p m c cc nL s args Ts own) (hM : vx_Met l y ws rm Pc Qc XC mc ms free) (cw : CallB R s args own index y bytes maxL ret ws rm mc ms n ∧ (Cond.static y).before args s = true) (hp : PreS s H Pc As)
    (hg : g.method = m) (hn : As.length = n) (hsize : g.locals.size = nL) (hstack : g.stack = As.reverse ++ rest) (hW : 2 * g.monitorRoom + (rest.map fun v => v.category).sum ≤ 8) (hdg : decode cc g.pc = .ok (.invokestatic index, 3)) (hf : cells + mc ≤ R.cells ∧ slots + ms ≤ R.slots) :
    vx_Run p l e R s m args below meth c H locs cells slots mc ms g rest (Qc As.toArray) XC free := by
  have hK : vx_Back l R p e below s args y 3 8 (PreOf R mc ms Pc) (PostOf Qc mc ms free) (vx_Post XC mc ms free) := vx_callBack cw.1 hM hp.1
  obtain ⟨⟨-, -, -, -, -, -, hcode, hini, hy, hlen, hl⟩, hstt⟩ := cw
  obtain ⟨hx, hb, hml, ho, -⟩ := S
  intro T hT X
  rcases vx_callS X hx (bytes := bytes) (maxL := maxL) (ret := ret) ho hl hstt hini hcode hy hK hg (hsize.trans hml.symm) (argsL := As) (rest := rest) (fun sig h => hn.trans (hlen sig h)) hstack hW (by rw [hb]; exact hdg)
    (fun vm₁ hW₁ => ⟨hf.1, hf.2, hp.2 (T.setVm vm₁) hT hW₁⟩) with ⟨v, vm₁, ⟨U', l2, c2, s2⟩, hW₁, X', ⟨g', mk, t, L, e1, e2, hq, h1, hL, h2, h3⟩, st⟩ | ⟨q, vm₁, ⟨U', l2, c2, s2⟩, hW₁, X', ⟨g', mk, t, L, E, ce, e1, e2, hq, hce, hcv, hcl, h1, hL, h2, h3⟩, st⟩
  · dsimp only [Pt.U, Pt.locs, Pt.cells, Pt.slots] at X' e1 e2 h1 h2 h3 st
    subst h1; subst h2; subst h3
    exact Or.inl ⟨v, (T.setVm vm₁).calling g' mk As.toArray, t, U', L, hT, X', hL, e1, e2, hq, st⟩
  · dsimp only [Pt.U, Pt.locs, Pt.cells, Pt.slots] at X' e1 e2 h1 h2 h3 st hcl
    subst h1; subst h2; subst h3
    exact Or.inr ⟨q, (T.setVm vm₁).calling g' mk As.toArray, t, U', L, E, ce, hT, X', hL, e1, e2, hq, hce, hcv, vx_cls hW₁ hcl, st⟩
end Runs
section Rows
variable {p : Program} {l : Launch} {e : Env} {R : Room} {s : State} {m : MethodId} {args : Array Value} {below : List Frame} {meth : Method} {c : Code} {H : Heap} {locs : List Loc} {cells slots : Nat} {Q : State → Prop}
variable {mc ms : Nat} {free : Addr → Prop} {A0 A1 : Nat → Prop} {H0 : Heap} {a : Array Value} {pc : Nat} {ls : Array Slot} {st0 rest : List Value}
theorem vx_keep {st₀ t T' : State} {L : List Loc} (h0 : st₀.heap = H) (e1 : T'.heap = t.heap) (hS : va_S A0 H0 H locs) (hA : ∀ q, q < H.size → A1 q → A0 q) (hf : ∀ q, free q → A0 q) (hL : ∀ q ∈ L, free q.base) (hF : va_F A1 st₀ t) :
    H.size ≤ T'.heap.size ∧ (∀ q : Nat, q < H.size → ¬ A1 q → T'.heap[q]? = H[q]?) ∧ va_S A0 H0 T'.heap (locs ++ L) := by
  obtain ⟨hz, hk⟩ := hF
  rw [h0] at hz hk
  exact ⟨by rw [e1]; exact hz, fun q h1 h2 => by rw [e1]; exact hk q h1 h2,
    ⟨Nat.le_trans hS.1 (by rw [e1]; exact hz), fun q h1 h2 => by rw [e1, hk q (Nat.lt_of_lt_of_le h1 hS.1) (fun z => h2 (hA q (Nat.lt_of_lt_of_le h1 hS.1) z))]; exact hS.2.1 q h1 h2, fun q hq => by
      rcases List.mem_append.mp hq with h | h
      · exact hS.2.2 q h
      · exact hf _ (hL q h)⟩⟩
theorem vx_calli {S SX : Type} {post : Int32 → S → Prop} {px : SX → Prop} {B : S → State → Prop} {BX : String → SX → State → Prop} {AX : Nat → Prop} (hr : vx_Run p l e R s m args below meth c H locs cells slots mc ms (F0 m pc ls st0) rest (va_Qi post B A1 a) (vx_X px BX AX) free) (hS : va_S A0 H0 H locs) (hA : ∀ q, q < H.size → A1 q → A0 q) (hf : ∀ q, free q → A0 q) (hAX : ∀ q, q < H.size → AX q → A0 q)
    (kx : ∀ (E : String) (ce : Cell) (q9 : Addr) (u : SX) (t : State) (H1 : Heap) (locs1 : List Loc), t.heap = H1 → s.vm.Alike t.vm → px u → BX E u t → H.size ≤ H1.size → (∀ q : Nat, q < H.size → ¬ AX q → H1[q]? = H[q]?) → va_S A0 H0 H1 locs1 → H1[q9]? = some ce → ce.vm = .none → s.vm.findClass E = some ce.cls → vx_W p l e R s m args below meth c H1 locs1 (cells + mc) (slots + ms) Q (F0 m pc ls rest) q9)
    (kk : ∀ (r : Int32) (u : S) (t : State) (H1 : Heap) (locs1 : List Loc), t.heap = H1 → s.vm.Alike t.vm → post r u → B u t → H.size ≤ H1.size → (∀ q : Nat, q < H.size → ¬ A1 q → H1[q]? = H[q]?) → va_S A0 H0 H1 locs1 → W p l e R s m args below meth c H1 locs1 (cells + mc) (slots + ms) Q (F0 m (pc + 3) ls (.int r :: rest))) : W p l e R s m args below meth c H locs cells slots Q (F0 m pc ls st0) := by
  intro T hT X
  rcases hr T hT X with ⟨v, st₀, t, T', L, h0, X', hL, e1, e2, ⟨⟨r, u, hv, hp, hb⟩, hF⟩, st⟩ | ⟨q, st₀, t, T', L, E, ce, h0, X', hL, e1, e2, ⟨u, hp, hb, hF⟩, hce, hcv, hcl, st⟩
  · cases hv
    obtain ⟨k1, k2, k3⟩ := vx_keep h0 e1 hS hA hf hL hF
    obtain ⟨t2, a1, b1⟩ := kk r u t T'.heap (locs ++ L) e1.symm (by rw [← e2]; exact X'.warmed.alike) hp hb k1 k2 k3 T' rfl X'
    exact ⟨t2, st t2 a1, b1⟩
  · obtain ⟨k1, k2, k3⟩ := vx_keep h0 e1 hS hAX hf hL hF
    obtain ⟨t2, a1, b1⟩ := kx E ce q u t T'.heap (locs ++ L) e1.symm (by rw [← e2]; exact X'.warmed.alike) hp hb k1 k2 k3 (by rw [e1]; exact hce) hcv hcl T' rfl X'
    exact ⟨t2, st.trans a1, b1⟩
theorem vx_calll {S SX : Type} {post : Int64 → S → Prop} {px : SX → Prop} {B : S → State → Prop} {BX : String → SX → State → Prop} {AX : Nat → Prop} (hr : vx_Run p l e R s m args below meth c H locs cells slots mc ms (F0 m pc ls st0) rest (va_Ql post B A1 a) (vx_X px BX AX) free) (hS : va_S A0 H0 H locs) (hA : ∀ q, q < H.size → A1 q → A0 q) (hf : ∀ q, free q → A0 q) (hAX : ∀ q, q < H.size → AX q → A0 q)
    (kx : ∀ (E : String) (ce : Cell) (q9 : Addr) (u : SX) (t : State) (H1 : Heap) (locs1 : List Loc), t.heap = H1 → s.vm.Alike t.vm → px u → BX E u t → H.size ≤ H1.size → (∀ q : Nat, q < H.size → ¬ AX q → H1[q]? = H[q]?) → va_S A0 H0 H1 locs1 → H1[q9]? = some ce → ce.vm = .none → s.vm.findClass E = some ce.cls → vx_W p l e R s m args below meth c H1 locs1 (cells + mc) (slots + ms) Q (F0 m pc ls rest) q9)
    (kk : ∀ (r : Int64) (u : S) (t : State) (H1 : Heap) (locs1 : List Loc), t.heap = H1 → s.vm.Alike t.vm → post r u → B u t → H.size ≤ H1.size → (∀ q : Nat, q < H.size → ¬ A1 q → H1[q]? = H[q]?) → va_S A0 H0 H1 locs1 → W p l e R s m args below meth c H1 locs1 (cells + mc) (slots + ms) Q (F0 m (pc + 3) ls (.long r :: rest))) : W p l e R s m args below meth c H locs cells slots Q (F0 m pc ls st0) := by
  intro T hT X
  rcases hr T hT X with ⟨v, st₀, t, T', L, h0, X', hL, e1, e2, ⟨⟨r, u, hv, hp, hb⟩, hF⟩, st⟩ | ⟨q, st₀, t, T', L, E, ce, h0, X', hL, e1, e2, ⟨u, hp, hb, hF⟩, hce, hcv, hcl, st⟩
  · cases hv
    obtain ⟨k1, k2, k3⟩ := vx_keep h0 e1 hS hA hf hL hF
    obtain ⟨t2, a1, b1⟩ := kk r u t T'.heap (locs ++ L) e1.symm (by rw [← e2]; exact X'.warmed.alike) hp hb k1 k2 k3 T' rfl X'
    exact ⟨t2, st t2 a1, b1⟩
  · obtain ⟨k1, k2, k3⟩ := vx_keep h0 e1 hS hAX hf hL hF
    obtain ⟨t2, a1, b1⟩ := kx E ce q u t T'.heap (locs ++ L) e1.symm (by rw [← e2]; exact X'.warmed.alike) hp hb k1 k2 k3 (by rw [e1]; exact hce) hcv hcl T' rfl X'
    exact ⟨t2, st.trans a1, b1⟩
theorem vx_callf {S SX : Type} {post : UInt32 → S → Prop} {px : SX → Prop} {B : S → State → Prop} {BX : String → SX → State → Prop} {AX : Nat → Prop} (hr : vx_Run p l e R s m args below meth c H locs cells slots mc ms (F0 m pc ls st0) rest (va_Qf post B A1 a) (vx_X px BX AX) free) (hS : va_S A0 H0 H locs) (hA : ∀ q, q < H.size → A1 q → A0 q) (hf : ∀ q, free q → A0 q) (hAX : ∀ q, q < H.size → AX q → A0 q)
    (kx : ∀ (E : String) (ce : Cell) (q9 : Addr) (u : SX) (t : State) (H1 : Heap) (locs1 : List Loc), t.heap = H1 → s.vm.Alike t.vm → px u → BX E u t → H.size ≤ H1.size → (∀ q : Nat, q < H.size → ¬ AX q → H1[q]? = H[q]?) → va_S A0 H0 H1 locs1 → H1[q9]? = some ce → ce.vm = .none → s.vm.findClass E = some ce.cls → vx_W p l e R s m args below meth c H1 locs1 (cells + mc) (slots + ms) Q (F0 m pc ls rest) q9)
    (kk : ∀ (r : UInt32) (u : S) (t : State) (H1 : Heap) (locs1 : List Loc), t.heap = H1 → s.vm.Alike t.vm → post r u → B u t → H.size ≤ H1.size → (∀ q : Nat, q < H.size → ¬ A1 q → H1[q]? = H[q]?) → va_S A0 H0 H1 locs1 → W p l e R s m args below meth c H1 locs1 (cells + mc) (slots + ms) Q (F0 m (pc + 3) ls (.float r :: rest))) : W p l e R s m args below meth c H locs cells slots Q (F0 m pc ls st0) := by
  intro T hT X
  rcases hr T hT X with ⟨v, st₀, t, T', L, h0, X', hL, e1, e2, ⟨⟨r, u, hv, hp, hb⟩, hF⟩, st⟩ | ⟨q, st₀, t, T', L, E, ce, h0, X', hL, e1, e2, ⟨u, hp, hb, hF⟩, hce, hcv, hcl, st⟩
  · cases hv
    obtain ⟨k1, k2, k3⟩ := vx_keep h0 e1 hS hA hf hL hF
    obtain ⟨t2, a1, b1⟩ := kk r u t T'.heap (locs ++ L) e1.symm (by rw [← e2]; exact X'.warmed.alike) hp hb k1 k2 k3 T' rfl X'
    exact ⟨t2, st t2 a1, b1⟩
  · obtain ⟨k1, k2, k3⟩ := vx_keep h0 e1 hS hAX hf hL hF
    obtain ⟨t2, a1, b1⟩ := kx E ce q u t T'.heap (locs ++ L) e1.symm (by rw [← e2]; exact X'.warmed.alike) hp hb k1 k2 k3 (by rw [e1]; exact hce) hcv hcl T' rfl X'
    exact ⟨t2, st.trans a1, b1⟩
theorem vx_calld {S SX : Type} {post : UInt64 → S → Prop} {px : SX → Prop} {B : S → State → Prop} {BX : String → SX → State → Prop} {AX : Nat → Prop} (hr : vx_Run p l e R s m args below meth c H locs cells slots mc ms (F0 m pc ls st0) rest (va_Qd post B A1 a) (vx_X px BX AX) free) (hS : va_S A0 H0 H locs) (hA : ∀ q, q < H.size → A1 q → A0 q) (hf : ∀ q, free q → A0 q) (hAX : ∀ q, q < H.size → AX q → A0 q)
    (kx : ∀ (E : String) (ce : Cell) (q9 : Addr) (u : SX) (t : State) (H1 : Heap) (locs1 : List Loc), t.heap = H1 → s.vm.Alike t.vm → px u → BX E u t → H.size ≤ H1.size → (∀ q : Nat, q < H.size → ¬ AX q → H1[q]? = H[q]?) → va_S A0 H0 H1 locs1 → H1[q9]? = some ce → ce.vm = .none → s.vm.findClass E = some ce.cls → vx_W p l e R s m args below meth c H1 locs1 (cells + mc) (slots + ms) Q (F0 m pc ls rest) q9)
    (kk : ∀ (r : UInt64) (u : S) (t : State) (H1 : Heap) (locs1 : List Loc), t.heap = H1 → s.vm.Alike t.vm → post r u → B u t → H.size ≤ H1.size → (∀ q : Nat, q < H.size → ¬ A1 q → H1[q]? = H[q]?) → va_S A0 H0 H1 locs1 → W p l e R s m args below meth c H1 locs1 (cells + mc) (slots + ms) Q (F0 m (pc + 3) ls (.double r :: rest))) : W p l e R s m args below meth c H locs cells slots Q (F0 m pc ls st0) := by
  intro T hT X
  rcases hr T hT X with ⟨v, st₀, t, T', L, h0, X', hL, e1, e2, ⟨⟨r, u, hv, hp, hb⟩, hF⟩, st⟩ | ⟨q, st₀, t, T', L, E, ce, h0, X', hL, e1, e2, ⟨u, hp, hb, hF⟩, hce, hcv, hcl, st⟩
  · cases hv
    obtain ⟨k1, k2, k3⟩ := vx_keep h0 e1 hS hA hf hL hF
    obtain ⟨t2, a1, b1⟩ := kk r u t T'.heap (locs ++ L) e1.symm (by rw [← e2]; exact X'.warmed.alike) hp hb k1 k2 k3 T' rfl X'
    exact ⟨t2, st t2 a1, b1⟩
  · obtain ⟨k1, k2, k3⟩ := vx_keep h0 e1 hS hAX hf hL hF
    obtain ⟨t2, a1, b1⟩ := kx E ce q u t T'.heap (locs ++ L) e1.symm (by rw [← e2]; exact X'.warmed.alike) hp hb k1 k2 k3 (by rw [e1]; exact hce) hcv hcl T' rfl X'
    exact ⟨t2, st.trans a1, b1⟩
theorem vx_callv {S SX : Type} {post : S → Prop} {px : SX → Prop} {B : S → State → Prop} {BX : String → SX → State → Prop} {AX : Nat → Prop} (hr : vx_Run p l e R s m args below meth c H locs cells slots mc ms (F0 m pc ls st0) rest (va_Qv post B A1 a) (vx_X px BX AX) free) (hS : va_S A0 H0 H locs) (hA : ∀ q, q < H.size → A1 q → A0 q) (hf : ∀ q, free q → A0 q) (hAX : ∀ q, q < H.size → AX q → A0 q)
    (kx : ∀ (E : String) (ce : Cell) (q9 : Addr) (u : SX) (t : State) (H1 : Heap) (locs1 : List Loc), t.heap = H1 → s.vm.Alike t.vm → px u → BX E u t → H.size ≤ H1.size → (∀ q : Nat, q < H.size → ¬ AX q → H1[q]? = H[q]?) → va_S A0 H0 H1 locs1 → H1[q9]? = some ce → ce.vm = .none → s.vm.findClass E = some ce.cls → vx_W p l e R s m args below meth c H1 locs1 (cells + mc) (slots + ms) Q (F0 m pc ls rest) q9)
    (kk : ∀ (u : S) (t : State) (H1 : Heap) (locs1 : List Loc), t.heap = H1 → s.vm.Alike t.vm → post u → B u t → H.size ≤ H1.size → (∀ q : Nat, q < H.size → ¬ A1 q → H1[q]? = H[q]?) → va_S A0 H0 H1 locs1 → W p l e R s m args below meth c H1 locs1 (cells + mc) (slots + ms) Q (F0 m (pc + 3) ls (rest))) : W p l e R s m args below meth c H locs cells slots Q (F0 m pc ls st0) := by
  intro T hT X
  rcases hr T hT X with ⟨v, st₀, t, T', L, h0, X', hL, e1, e2, ⟨⟨u, hv, hp, hb⟩, hF⟩, st⟩ | ⟨q, st₀, t, T', L, E, ce, h0, X', hL, e1, e2, ⟨u, hp, hb, hF⟩, hce, hcv, hcl, st⟩
  · cases hv
    obtain ⟨k1, k2, k3⟩ := vx_keep h0 e1 hS hA hf hL hF
    obtain ⟨t2, a1, b1⟩ := kk u t T'.heap (locs ++ L) e1.symm (by rw [← e2]; exact X'.warmed.alike) hp hb k1 k2 k3 T' rfl X'
    exact ⟨t2, st t2 a1, b1⟩
  · obtain ⟨k1, k2, k3⟩ := vx_keep h0 e1 hS hAX hf hL hF
    obtain ⟨t2, a1, b1⟩ := kx E ce q u t T'.heap (locs ++ L) e1.symm (by rw [← e2]; exact X'.warmed.alike) hp hb k1 k2 k3 (by rw [e1]; exact hce) hcv hcl T' rfl X'
    exact ⟨t2, st.trans a1, b1⟩
/-- caught by the row x of this method's table; the rows ahead don't take it -/
theorem vx_catch {own name : String} {E : String} {ce : Cell} {q : Addr} (hown : s.vm.findClass own = some m.cls) (pre : List ExceptionTableEntry) (x : ExceptionTableEntry) (suf : List ExceptionTableEntry) (hsplit : c.exceptionTable.toList = pre ++ x :: suf)
    (hpass : ∀ z ∈ pre, covers z pc = false ∨ (z.catchType ≠ 0 ∧ ∃ nm : String, (Cond.classLink own z.catchType nm).before args s = true ∧ va_Nc E nm s)) (hx : covers x pc = true) (h0 : x.catchType ≠ 0)
    (hlink : (Cond.classLink own x.catchType name).before args s = true) (hcast : (Cond.castable E name).before args s = true) (hcell : H[q]? = some ce) (hv : ce.vm = .none) (hcl : s.vm.findClass E = some ce.cls)
    (kk : W p l e R s m args below meth c H locs cells slots Q (F0 m x.handlerPc ls [.ref q])) : vx_W p l e R s m args below meth c H locs cells slots Q (F0 m pc ls rest) q := by
  intro T hT X
  have hpl : e.platform.magicAccessors = ({} : Platform).magicAccessors := by rw [X.admits.platform]
  obtain ⟨c3, c4, hc3, hc4, hasg⟩ := Cond.castable_spec hcast
  cases Option.some.inj (hc3.symm.trans hcl)
  obtain ⟨c5, hc5, hcl5⟩ := Cond.classLink_spec hown hlink e.platform hpl
  cases Option.some.inj (hc4.symm.trans hc5)
  obtain ⟨vm', X', st⟩ := X.thenCaughtThrough q (g := F0 m pc ls rest) rfl (Steps.refl _) (by rw [hT]; exact hcell) (by rw [hv]; rfl) (by obtain ⟨k9, h9, -⟩ := Vm.findClass_spec hcl; exact ⟨k9, h9⟩) pre x suf hsplit
    (fun z hz => by
      rcases hpass z hz with h | ⟨hz0, nm, hl1, hn1⟩
      · exact Or.inl h
      · obtain ⟨c6, hc6, hcl6⟩ := Cond.classLink_spec hown hl1 e.platform hpl
        obtain ⟨a8, b8, h1, h2, h3⟩ := hn1
        cases Option.some.inj (h1.symm.trans hcl)
        cases Option.some.inj (h2.symm.trans hc6)
        exact Or.inr ⟨hz0, _, hcl6, h3⟩) hx (Or.inr ⟨h0, c4, hcl5, hasg⟩)
  obtain ⟨t, a1, b1⟩ := kk (T.setVm vm') hT X'
  exact ⟨t, st.trans a1, b1⟩
end Rows
section Ends
variable {p : Program} {l : Launch} {e : Env} {R : Room} {s : State} {m : MethodId} {args : Array Value} {below : List Frame} {meth : Method} {c : Code} {H : Heap} {locs : List Loc} {cells slots : Nat} {Q : State → Prop}
variable {mc ms : Nat} {free : Addr → Prop} {A0 A1 : Nat → Prop} {H0 : Heap} {a : Array Value} {ls : Array Slot} {st0 rest : List Value}
variable {Qc : Array Value → State → Outcome → State → Prop} {XC : String → State → State → Prop}
/-- what a body that may throw owes at its end -/
def vx_MQ (below : List Frame) (Qc : Array Value → State → Outcome → State → Prop) (XC : String → State → State → Prop) (a : Array Value) (s : State) (mc ms : Nat) (free : Addr → Prop) : State → Prop := fun t =>
  ∃ o, t.status = .running ∧ Ended t below o ∧ vx_Q Qc XC mc ms free a s o t
theorem vx_ret {g : JFrame} {mc ms : Nat} (k : W p l e R s m args below meth c H locs cells slots (MQ below Qc args s mc ms free) g) : W p l e R s m args below meth c H locs cells slots (vx_MQ below Qc XC args s mc ms free) g := by
  intro T hT X
  obtain ⟨t, a1, o, b1, b2, b3, b4⟩ := k T hT X
  exact ⟨t, a1, o, b1, b2, Or.inl ⟨b3, b4⟩⟩
/-- not caught here: it goes on to the caller -/
theorem vx_widen {g : JFrame} {q : Addr} {k n : Nat} (h1 : cells ≤ k) (h2 : slots ≤ n) (kk : vx_W p l e R s m args below meth c H locs k n Q g q) : vx_W p l e R s m args below meth c H locs cells slots Q g q := fun T hT X => kk T hT (stand_widen X h1 h2)
theorem vx_out {pc : Nat} {E : String} {ce : Cell} {q : Addr} {mc ms : Nat} (hout : ∀ x ∈ c.exceptionTable.toList, covers x pc = false) (hlocks : meth.locks = false) (hcell : H[q]? = some ce) (hv : ce.vm = .none) (hcl : s.vm.findClass E = some ce.cls)
    (hx : ∀ t : State, t.heap = H → s.vm.Alike t.vm → XC E s t) (hf : ∀ z ∈ locs, free z.base) (hc : cells ≤ mc) (hs : slots ≤ ms) :
    vx_W p l e R s m args below meth c H locs cells slots (vx_MQ below Qc XC args s mc ms free) (F0 m pc ls rest) q := by
  intro T hT X
  obtain ⟨st1, hrun, hend, hW, hsm⟩ := X.leaveThrown q (g := F0 m pc ls rest) rfl rfl rfl hout hlocks
  have hcell9 : (T.setFrames (.throwing q :: below)).heap[q]? = some ce := by
    show T.heap[q]? = some ce
    rw [hT]; exact hcell
  exact ⟨_, st1, .threw q, hrun, hend, Or.inr ⟨q, rfl, E, ce, locs, hx _ hT hW.alike, hcell9, hv, hcl, hW, hsm.mono hc hs, hf⟩⟩
theorem vx_frame {U : State} {k n : Nat} (h : s.sameButNew ({ U with vm := s.vm } : State) locs k n) : s.heap.size ≤ U.heap.size ∧ ∀ q : Nat, q < s.heap.size → (∀ z ∈ locs, z.base ≠ q) → U.heap[q]? = s.heap[q]? := by
  obtain ⟨-, h2, -, -, -, h6⟩ := h
  refine ⟨h2, fun q hq hz => ?_⟩
  obtain ⟨c9, e1, e2, e3, e4⟩ := h6 q _ (Array.getElem?_eq_getElem hq)
  have hs : c9.slots = (s.heap[q]).slots := Array.ext_getElem? fun i => e4 i fun hm => hz _ hm rfl
  have h9 : c9 = s.heap[q] := by
    rw [hs] at e2
    exact e2
  have e5 : U.heap[q]? = some c9 := e1
  rw [e5, h9, Array.getElem?_eq_getElem hq]
/-- the words of a throw but the four that speak of the heap -/
def vx_no (w : Cond) : Bool := decide (w ≠ .isRef (.static Bundle.tN "UNASSIGNED_STACK" Bundle.steD)) && decide (w ≠ .isRef (.static Bundle.tN "SUPPRESSED_SENTINEL" Bundle.listD)) && decide (w ≠ .laysStatic Bundle.tN "UNASSIGNED_STACK" Bundle.steD) && decide (w ≠ .laysStatic Bundle.tN "SUPPRESSED_SENTINEL" Bundle.listD)
def vx_at0 (own : String) (ic : Nat) (X : String) (names : List String) : List Cond := (Bundle.ownAtoms0 own ic X names).filter vx_no
def vx_atS (own : String) (ic : Nat) (X : String) (names : List String) : List Cond := (Bundle.ownAtoms own ic X names).filter vx_no
/-- a word that the tables alone decide, or a good one -/
def vx_ot (w : Cond) : Bool := w.onTables || goodWord w
theorem vx_ot_at {args a' : Array Value} {s U : State} {w : Cond} (hW : s.WarmedH U.vm) (hvm : s.vm = U.vm) (hg : vx_ot w = true) (h : w.before args s = true) : w.before a' U = true := by
  simp only [vx_ot, Bool.or_eq_true] at hg
  rcases hg with hg | hg
  · exact va_tabs hg hvm h
  · exact word_at hW (good_of_word hg) h
/-- a list's words: the good ones out of the method's own list, the others by premises of their own -/
theorem vx_hat {args : Array Value} {s : State} {L B : List Cond} (h1 : ∀ w ∈ L.filter goodWord, w.before args s = true) (h2 : ∀ w ∈ L.filter (fun w => !goodWord w), w ∈ B) (h3 : ∀ w ∈ B, w.before args s = true) : ∀ w ∈ L, w.before args s = true := by
  intro w hw
  by_cases g : goodWord w = true
  · exact h1 w (List.mem_filter.mpr ⟨hw, g⟩)
  · refine h3 w (h2 w (List.mem_filter.mpr ⟨hw, ?_⟩))
    show (!goodWord w) = true
    cases hgw : goodWord w
    · rfl
    · exact absurd hgw g
theorem vx_c {args : Array Value} {s : State} {w : Cond} {B : List Cond} (h : w.before args s = true) (t : ∀ w ∈ B, w.before args s = true) : ∀ w' ∈ w :: B, w'.before args s = true := fun w' h' => (List.mem_cons.mp h').elim (fun e => by rw [e]; exact h) (t w')
theorem vx_n {args : Array Value} {s : State} : ∀ w ∈ ([] : List Cond), w.before args s = true := fun _ h => nomatch h
theorem vx_own {args : Array Value} {s : State} {L : List Cond} (h1 : ∀ w ∈ L.filter vx_no, w.before args s = true)
    (hU : (Cond.isRef (.static Bundle.tN "UNASSIGNED_STACK" Bundle.steD)).before args s = true) (hN : (Cond.isRef (.static Bundle.tN "SUPPRESSED_SENTINEL" Bundle.listD)).before args s = true)
    (lU : (Cond.laysStatic Bundle.tN "UNASSIGNED_STACK" Bundle.steD).before args s = true) (lN : (Cond.laysStatic Bundle.tN "SUPPRESSED_SENTINEL" Bundle.listD).before args s = true) : ∀ w ∈ L, w.before args s = true := by
  intro w hw
  by_cases e1 : w = .isRef (.static Bundle.tN "UNASSIGNED_STACK" Bundle.steD)
  · rw [e1]; exact hU
  · by_cases e2 : w = .isRef (.static Bundle.tN "SUPPRESSED_SENTINEL" Bundle.listD)
    · rw [e2]; exact hN
    · by_cases e3 : w = .laysStatic Bundle.tN "UNASSIGNED_STACK" Bundle.steD
      · rw [e3]; exact lU
      · by_cases e4 : w = .laysStatic Bundle.tN "SUPPRESSED_SENTINEL" Bundle.listD
        · rw [e4]; exact lN
        · exact h1 w (List.mem_filter.mpr ⟨hw, by unfold vx_no; rw [decide_eq_true e1, decide_eq_true e2, decide_eq_true e3, decide_eq_true e4]; rfl⟩)
/-- where a static field lies, its class's statics cell in H -/
def vx_L (C n d : String) (A : Nat → Prop) (U : State) (H : Heap) : Prop := ∃ (c : ClassId) (k : Class) (i : Nat) (f : Field) (a : Nat) (cell : Cell), U.vm.findClass C = some c ∧ U.fieldFound? C n d = some (c, k, i, f) ∧ f.isStatic = true ∧ k.statics = some a ∧ H[a]? = some cell ∧ cell.vm.isStatics = true ∧ cell.cls = c ∧ f.slot < cell.slots.size ∧ k.staticTypes[f.slot]? = some f.type ∧ ¬ A a
theorem vx_L.moved {C n d : String} {A : Nat → Prop} {u U : State} {H : Heap} (hvm : u.vm.Alike U.vm) (h : vx_L C n d A u H) : vx_L C n d A U H := by
  obtain ⟨c, k, i, f, a, cell, h1, h2, h3, h4, h5, h6, h7, h8, h9, h10⟩ := h
  obtain ⟨k', hi', he⟩ := State.fieldFound?_setVm hvm h2
  exact ⟨c, k', i, f, a, cell, by rw [hvm.findClass]; exact h1, hi', h3, by rw [he]; exact h4, h5, h6, h7, h8, by rw [he]; exact h9, h10⟩
theorem vx_L.kept {C n d : String} {A : Nat → Prop} {U : State} {H H1 : Heap} (h : vx_L C n d A U H) (hq : ∀ a : Nat, a < H.size → ¬ A a → H1[a]? = H[a]?) : vx_L C n d A U H1 := by
  obtain ⟨c, k, i, f, a, cell, h1, h2, h3, h4, h5, h6, h7, h8, h9, h10⟩ := h
  exact ⟨c, k, i, f, a, cell, h1, h2, h3, h4, by rw [hq a (Array.getElem?_eq_some_iff.mp h5).1 h10]; exact h5, h6, h7, h8, h9, h10⟩
theorem vx_L.narrow {C n d : String} {A B : Nat → Prop} {U : State} {H : Heap} (h : vx_L C n d A U H) (hAB : ∀ q, B q → A q) : vx_L C n d B U H := by
  obtain ⟨c, k, i, f, a, cell, h1, h2, h3, h4, h5, h6, h7, h8, h9, h10⟩ := h
  exact ⟨c, k, i, f, a, cell, h1, h2, h3, h4, h5, h6, h7, h8, h9, fun z => h10 (hAB _ z)⟩
theorem vx_L.word {C n d : String} {A : Nat → Prop} {s : State} {args : Array Value} (h : vx_L C n d A s s.heap) : (Cond.laysStatic C n d).before args s = true := by
  obtain ⟨c, k, i, f, a, cell, h1, h2, h3, h4, h5, h6, h7, h8, h9, -⟩ := h
  show (Cond.laysStatic C n d).holds args s none s [] = true
  exact Cond.laysStatic_of h1 h2 h3 h4 h5 h6 h7 h8 h9
/-- .. and what it holds: null or some reference -/
def vx_Zq (C n d : String) (A : Nat → Prop) (U : State) (H : Heap) : Prop := va_Zq C n d A U H ∧ vx_L C n d A U H
theorem vx_Zq.moved {C n d : String} {A : Nat → Prop} {u U : State} {H : Heap} (hvm : u.vm.Alike U.vm) (h : vx_Zq C n d A u H) : vx_Zq C n d A U H := ⟨va_Zq.moved hvm h.1, vx_L.moved hvm h.2⟩
theorem vx_Zq.kept {C n d : String} {A : Nat → Prop} {U : State} {H H1 : Heap} (h : vx_Zq C n d A U H) (hq : ∀ a : Nat, a < H.size → ¬ A a → H1[a]? = H[a]?) : vx_Zq C n d A U H1 := ⟨va_Zq.kept h.1 hq, vx_L.kept h.2 hq⟩
theorem vx_Zq.narrow {C n d : String} {A B : Nat → Prop} {U : State} {H : Heap} (h : vx_Zq C n d A U H) (hAB : ∀ q, B q → A q) : vx_Zq C n d B U H := ⟨va_Zq.narrow h.1 hAB, vx_L.narrow h.2 hAB⟩
theorem vx_Zqof {args : Array Value} {s : State} {C n d : String} {A : Nat → Prop} (hl : (Cond.laysStatic C n d).before args s = true) (hini : (Cond.initialized C).before args s = true) (h : (Cond.isRef (.static C n d)).before args s = true) (hA : ∀ a : Nat, a < s.heap.size → ¬ A a) : vx_Zq C n d A s s.heap := by
  refine ⟨va_Zqof hl hini h hA, ?_⟩
  obtain ⟨c, k, i, f, a, cell, h1, h2, h3, h4, h5, h6, h7, h8, h9⟩ := Cond.laysStatic_spec hl
  exact ⟨c, k, i, f, a, cell, h1, h2, h3, h4, h5, h6, h7, h8, h9, hA a (Array.getElem?_eq_some_iff.mp h5).1⟩
theorem vx_isRef {C n d : String} {v : Value} {A : Nat → Prop} {s : State} {args : Array Value} (h : va_Z C n d v A s s.heap) (hv : v.isRef = true) : (Cond.isRef (.static C n d)).before args s = true := by
  obtain ⟨cf, kf, fi, f, a, cell, h1, h2, h3, h4, h5, h6, h7, -⟩ := h
  have he : (Term.static C n d).eval args s none [] s = some v := by
    simp [Term.eval, State.fieldNamed?, h1, h2, h4, h5, h6, h7]
  simp only [Cond.before, Cond.holds, Cond.value, he]
  cases v <;> simp_all [Value.isRef]
theorem vx_isRefq {C n d : String} {A : Nat → Prop} {s : State} {args : Array Value} (h : va_Zq C n d A s s.heap) : (Cond.isRef (.static C n d)).before args s = true := by
  rcases h with h | ⟨t, h⟩
  · exact vx_isRef h rfl
  · exact vx_isRef h rfl
/-- the same frame, seen from here: as if the method were called anew in this heap -/
theorem vx_rebase {T : State} (X : Stand p l e R s m args below meth c T locs cells slots) {R' : Room} (hf : R'.frames ≤ R.frames) (hl : R'.locals ≤ R.locals) (hc : cells + R'.cells ≤ R.cells) (hs : slots + R'.slots ≤ R.slots) :
    Stand p l e R' ((T.setVm s.vm).setFrames (.invoking m args :: below)) m args below meth c T [] 0 0 := by
  have htop : (T.setVm s.vm).topJava?.isSome := X.here.top
  have hF : ((T.setVm s.vm).setFrames (.invoking m args :: below)).frames = .invoking m args :: below := State.frames_setFrames _ (State.cur_lt_of_top htop)
  obtain ⟨g₀, hg0⟩ := Option.isSome_iff_exists.mp htop
  obtain ⟨r, hr⟩ := State.topJava?_eq_some.mp hg0
  have hl9 : e.platform.stackLimits (T.setVm s.vm).me = e.platform.stackLimits s.me := X.limits
  have hb9 : (T.setVm s.vm).me.stackBytes = s.me.stackBytes := X.bytes
  refine ⟨X.admits, X.cas, X.clock, hF, ?_, X.hears, X.method, X.code, X.here, X.tail, X.warmed, ?_, ?_, ?_⟩
  · have h := X.room
    have hU : ((T.setVm s.vm).setFrames (.invoking m args :: below)).localsInUse = s.localsInUse := by
      rw [State.localsInUse_invoking hF (meth := meth) (c := c) X.method X.code, State.localsInUse_invoking X.frames X.method X.code]
    simp only [State.hasRoom, Bool.and_eq_true, decide_eq_true_eq] at h ⊢
    obtain ⟨⟨⟨⟨h1, h2, h3, h4, h5, h6⟩, h7⟩, h8⟩, h9⟩ := h
    rw [X.frames, List.length_cons] at h2 h3
    have q1 := X.heapSize
    have q2 := X.used
    simp only [hF, hU, List.length_cons, State.stackLimits_setFrames, State.stackBytes_setFrames, hl9, hb9]
    refine ⟨⟨⟨⟨by omega, by omega, by omega, by omega, by omega, h6⟩, ?_⟩, ?_⟩, X.book⟩
    · show T.heap.size + R'.cells ≤ e.platform.maxCells
      omega
    · show T.slotsUsed + R'.slots ≤ e.platform.maxSlots
      omega
  · rw [State.stackLimits_setFrames]; rfl
  · rw [State.stackBytes_setFrames]; rfl
  · refine ⟨?_, Nat.le_refl _, Nat.le_refl _, ?_, ?_, fun a c9 h9 => ⟨c9, h9, rfl, rfl, fun _ _ => rfl⟩⟩
    · obtain ⟨t, ht, -⟩ := State.frames_cons hr
      show T.setVm s.vm = { ((T.setVm s.vm).setFrames (.invoking m args :: below)).setFrames (T.setVm s.vm).frames with heap := T.heap, slotsUsed := T.slotsUsed }
      rw [State.setFrames_setFrames, State.setFrames_self ht]
      rfl
    · show T.slotsUsed = T.slotsUsed + ((T.heap.toList.drop T.heap.size).map (·.slots.size)).sum
      rw [List.drop_eq_nil_of_le (Nat.le_of_eq Array.length_toList)]
      rfl
    · show ((T.heap.toList.drop T.heap.size).map (·.slots.size)).sum ≤ 0
      rw [List.drop_eq_nil_of_le (Nat.le_of_eq Array.length_toList)]
      exact Nat.le_refl _
/-- 'throw new E()': new; dup; invokespecial; athrow -/
theorem vx_throw0 {cc : ByteArray} {pc : Nat} (hexec : p.tables.exec = Jvm.exec) (hb : c.code = cc) (hl : l.stackTraces = false) {own cls : String} {names : List String} {ik ic mc ms : Nat} {A : Nat → Prop}
    (hown : s.vm.findClass own = some m.cls) (hcls : Bundle.fit cls = true) (hnames : ∀ n ∈ names, Bundle.fit n = true)
    (hk : (Cond.classLink own ik cls).before args s = true) (hini : (Cond.initialized cls).before args s = true) (hat : ∀ w ∈ vx_at0 own ic cls names, w.before args s = true)
    (hgood : ∀ w ∈ Cond.classLink own ik cls :: Cond.initialized cls :: vx_at0 own ic cls names, vx_ot w = true)
    (hU : vx_Zq Bundle.tN "UNASSIGNED_STACK" Bundle.steD A s s.heap) (hN : vx_Zq Bundle.tN "SUPPRESSED_SENTINEL" Bundle.listD A s s.heap) (hS : va_S A s.heap H locs) (hsize : ls.size = c.maxLocals)
    (d0 : decode cc pc = .ok (.new ik, 3)) (d3 : decode cc (pc + 3) = .ok (.dup, 1)) (d4 : decode cc (pc + 4) = .ok (.invokespecial ic, 3)) (d7 : decode cc (pc + 7) = .ok (.athrow, 1))
    (hout : ∀ x ∈ c.exceptionTable.toList, covers x (pc + 7) = false)
    (hRframes : names.length + 3 < R.frames) (hRlocals : (rest.map fun v => v.category).sum + (13 * (names.length + 1) + 42) ≤ R.locals) (hRcells : cells + 1 ≤ R.cells) (hRslots : slots + 6 ≤ R.slots) (hlocks : meth.locks = false)
    (hx : ∀ t : State, s.vm.Alike t.vm → H.size ≤ t.heap.size → (∀ q : Nat, q < H.size → t.heap[q]? = H[q]?) → XC cls s t)
    (hf : ∀ z ∈ locs, free z.base) (hc : cells + 1 ≤ mc) (hs : slots + 6 ≤ ms) :
    W p l e R s m args below meth c H locs cells slots (vx_MQ below Qc XC args s mc ms free) (F0 m pc ls rest) := by
  intro T hT X
  have htr : e.platform.stackTraces = false := (show e.platform.stackTraces = l.stackTraces by rw [X.admits.platform]).trans hl
  have Y := vx_rebase X (R' := { frames := R.frames, locals := R.locals, cells := 1, slots := 6 }) (Nat.le_refl _) (Nat.le_refl _) hRcells hRslots
  obtain ⟨s', hA⟩ : ∃ z, z = (T.setVm s.vm).setFrames (.invoking m args :: below) := ⟨_, rfl⟩
  rw [← hA] at Y
  have hvm : s'.vm = s.vm := by rw [hA]; rfl
  have hhp : s'.heap = H := by rw [hA]; exact hT
  have hW0 : s.WarmedH s'.vm := by rw [hvm]; exact State.WarmedH.refl s
  have hat' : ∀ w ∈ vx_at0 own ic cls names, w.before args s' = true := fun w hw => vx_ot_at hW0 hvm.symm (hgood w (List.mem_cons_of_mem _ (List.mem_cons_of_mem _ hw))) (hat w hw)
  have hk' : (Cond.classLink own ik cls).before args s' = true := vx_ot_at hW0 hvm.symm (hgood _ List.mem_cons_self) hk
  have hini' : (Cond.initialized cls).before args s' = true := vx_ot_at hW0 hvm.symm (hgood _ (List.mem_cons_of_mem _ List.mem_cons_self)) hini
  have hU' : vx_Zq Bundle.tN "UNASSIGNED_STACK" Bundle.steD A s' s'.heap := by rw [hhp]; exact vx_Zq.moved hW0.alike (hU.kept hS.2.1)
  have hN' : vx_Zq Bundle.tN "SUPPRESSED_SENTINEL" Bundle.listD A s' s'.heap := by rw [hhp]; exact vx_Zq.moved hW0.alike (hN.kept hS.2.1)
  have h : ∀ w ∈ Bundle.ownAtoms0 own ic cls names, w.before args s' = true := vx_own hat' (vx_isRefq hU'.1) (vx_isRefq hN'.1) hU'.2.word hN'.2.word
  have hown' : s'.vm.findClass own = some m.cls := by rw [hvm]; exact hown
  have hins : (Cond.instantiable cls 6).before args s' = true := h _ (by simp [Bundle.ownAtoms0])
  obtain ⟨vm₁, cX, kX, hfX, hkX, -, -, X₁, st1⟩ := Y.newCold hexec (own := own) (C := cls) (index := ik) (n := 6) hown' hk' hins hini'
    (g := F0 m pc ls rest) rfl (by rw [hb]; exact d0) (Nat.le_refl _) (Nat.le_refl _)
  generalize hT1 : (T.setVm vm₁).pushCell { cls := cX, slots := kX.instanceTypes.map defaultValue, vm := .none } = T1 at X₁ st1
  have hcat : (Value.ref T.heap.size).category = 1 := rfl
  have hcellA : T1.heap[T.heap.size]? = some (freshCell cX kX) := by rw [← hT1]; exact State.heap_pushCell_size _ _
  have d3' : decode c.code (pc + 3) = .ok (.dup, 1) := by rw [hb]; exact d3
  obtain ⟨U, hsteps, hrun, hend, hW, hsame, ce, hce, hO⟩ := X₁.ctorThrow0 hexec htr (own := own) (cls := cls) (names := names) (ic := ic) hown' hcls hnames h (fun x hx => nomatch hx) hfX hkX hcellA (by rw [hhp, hT]; exact Nat.le_refl _)
    (g := { method := m, pc := pc + 4, locals := ls, stack := .ref T.heap.size :: .ref T.heap.size :: rest, locked := none }) rfl hsize rfl rfl (rest := rest) rfl
    (by rw [hb]; exact d4) (by rw [hb]; exact d7) hout hRframes (by simp only [List.map_cons, List.sum_cons, hcat]; omega) hlocks
  obtain ⟨f1, f2⟩ := vx_frame hsame
  rw [hhp] at f1 f2
  have hWs : s.WarmedH U.vm := State.WarmedH.trans hW0 hW
  have hcl : s.vm.findClass cls = some ce.cls := by
    have h9 := hO.cls
    rw [hvm] at h9
    exact h9
  have hall : s.sameButNew ({ U with vm := s.vm } : State) locs mc ms := by
    subst hA
    obtain ⟨e1, e2⟩ := hsame
    rw [State.setFrames_setFrames] at e1
    have h2 : (T.setVm s.vm).sameButNew ({ U with vm := s.vm } : State) [] (0 + 1) (0 + 6) := ⟨e1, e2⟩
    have h3 := X.same.trans h2
    rw [List.append_nil] at h3
    exact h3.mono hc hs
  refine ⟨U, ?_, .threw T.heap.size, hrun, hend, Or.inr ⟨T.heap.size, rfl, cls, ce, locs, hx U hWs.alike f1 (fun q hq => f2 q hq (fun z hz => nomatch hz)), hce, hO.vm, hcl, hWs, hall, hf⟩⟩
  refine st1 _ ?_
  show Steps p.tables e below (T1.setTop { method := m, pc := pc + 3, locals := ls, stack := .ref T.heap.size :: rest, locked := none }) _
  jvm_step X₁.here [X₁.here.top, hexec, d3', Value.category]
  exact hsteps
/-- 'throw new E("text")': new; dup; ldc; invokespecial; athrow -/
theorem vx_throwS {cc : ByteArray} {pc : Nat} (hexec : p.tables.exec = Jvm.exec) (hb : c.code = cc) (hl : l.stackTraces = false) {own cls text : String} {names : List String} {ik is ic mc ms sa : Nat} {A : Nat → Prop}
    (hown : s.vm.findClass own = some m.cls) (hcls : Bundle.fit cls = true) (hnames : ∀ n ∈ names, Bundle.fit n = true)
    (hk : (Cond.classLink own ik cls).before args s = true) (hini : (Cond.initialized cls).before args s = true) (hstr : vk_R own is text sa s) (hat : ∀ w ∈ vx_atS own ic cls names, w.before args s = true)
    (hgood : ∀ w ∈ Cond.classLink own ik cls :: Cond.initialized cls :: vx_atS own ic cls names, vx_ot w = true)
    (hU : vx_Zq Bundle.tN "UNASSIGNED_STACK" Bundle.steD A s s.heap) (hN : vx_Zq Bundle.tN "SUPPRESSED_SENTINEL" Bundle.listD A s s.heap) (hS : va_S A s.heap H locs) (hsize : ls.size = c.maxLocals)
    (d0 : decode cc pc = .ok (.new ik, 3)) (d3 : decode cc (pc + 3) = .ok (.dup, 1)) (d4 : decode cc (pc + 4) = .ok (.ldc is, 2)) (d6 : decode cc (pc + 6) = .ok (.invokespecial ic, 3)) (d9 : decode cc (pc + 9) = .ok (.athrow, 1))
    (hout : ∀ x ∈ c.exceptionTable.toList, covers x (pc + 9) = false)
    (hRframes : names.length + 3 < R.frames) (hRlocals : (rest.map fun v => v.category).sum + (13 * (names.length + 1) + 43) ≤ R.locals) (hRcells : cells + 1 ≤ R.cells) (hRslots : slots + 6 ≤ R.slots) (hlocks : meth.locks = false)
    (hx : ∀ t : State, s.vm.Alike t.vm → H.size ≤ t.heap.size → (∀ q : Nat, q < H.size → t.heap[q]? = H[q]?) → XC cls s t)
    (hf : ∀ z ∈ locs, free z.base) (hc : cells + 1 ≤ mc) (hs : slots + 6 ≤ ms) :
    W p l e R s m args below meth c H locs cells slots (vx_MQ below Qc XC args s mc ms free) (F0 m pc ls rest) := by
  intro T hT X
  have htr : e.platform.stackTraces = false := (show e.platform.stackTraces = l.stackTraces by rw [X.admits.platform]).trans hl
  have Y := vx_rebase X (R' := { frames := R.frames, locals := R.locals, cells := 1, slots := 6 }) (Nat.le_refl _) (Nat.le_refl _) hRcells hRslots
  obtain ⟨s', hA⟩ : ∃ z, z = (T.setVm s.vm).setFrames (.invoking m args :: below) := ⟨_, rfl⟩
  rw [← hA] at Y
  have hvm : s'.vm = s.vm := by rw [hA]; rfl
  have hhp : s'.heap = H := by rw [hA]; exact hT
  have hW0 : s.WarmedH s'.vm := by rw [hvm]; exact State.WarmedH.refl s
  have hat' : ∀ w ∈ vx_atS own ic cls names, w.before args s' = true := fun w hw => vx_ot_at hW0 hvm.symm (hgood w (List.mem_cons_of_mem _ (List.mem_cons_of_mem _ hw))) (hat w hw)
  have hk' : (Cond.classLink own ik cls).before args s' = true := vx_ot_at hW0 hvm.symm (hgood _ List.mem_cons_self) hk
  have hini' : (Cond.initialized cls).before args s' = true := vx_ot_at hW0 hvm.symm (hgood _ (List.mem_cons_of_mem _ List.mem_cons_self)) hini
  have hU' : vx_Zq Bundle.tN "UNASSIGNED_STACK" Bundle.steD A s' s'.heap := by rw [hhp]; exact vx_Zq.moved hW0.alike (hU.kept hS.2.1)
  have hN' : vx_Zq Bundle.tN "SUPPRESSED_SENTINEL" Bundle.listD A s' s'.heap := by rw [hhp]; exact vx_Zq.moved hW0.alike (hN.kept hS.2.1)
  have h : ∀ w ∈ Bundle.ownAtoms own ic cls names, w.before args s' = true := vx_own hat' (vx_isRefq hU'.1) (vx_isRefq hN'.1) hU'.2.word hN'.2.word
  have hown' : s'.vm.findClass own = some m.cls := by rw [hvm]; exact hown
  have hins : (Cond.instantiable cls 6).before args s' = true := h _ (by simp [Bundle.ownAtoms])
  obtain ⟨vm₁, cX, kX, hfX, hkX, -, -, X₁, st1⟩ := Y.newCold hexec (own := own) (C := cls) (index := ik) (n := 6) hown' hk' hins hini'
    (g := F0 m pc ls rest) rfl (by rw [hb]; exact d0) (Nat.le_refl _) (Nat.le_refl _)
  generalize hT1 : (T.setVm vm₁).pushCell { cls := cX, slots := kX.instanceTypes.map defaultValue, vm := .none } = T1 at X₁ st1
  have hcat : (Value.ref T.heap.size).category = 1 := rfl
  have hcellA : T1.heap[T.heap.size]? = some (freshCell cX kX) := by rw [← hT1]; exact State.heap_pushCell_size _ _
  have d3' : decode c.code (pc + 3) = .ok (.dup, 1) := by rw [hb]; exact d3
  have d4' : decode c.code (pc + 4) = .ok (.ldc is, 2) := by rw [hb]; exact d4
  have hstr' : vk_R own is text sa s' := vk_R.warm hW0 hstr
  obtain ⟨U, hsteps, hrun, hend, hW, hsame, ce, hce, hO⟩ := X₁.ctorThrowS hexec htr (own := own) (cls := cls) (names := names) (ic := ic) hown' hcls hnames h (fun x hx => nomatch hx) hfX hkX hcellA (by rw [hhp, hT]; exact Nat.le_refl _) (msg := .ref sa) rfl
    (g := { method := m, pc := pc + 6, locals := ls, stack := .ref sa :: .ref T.heap.size :: .ref T.heap.size :: rest, locked := none }) rfl hsize rfl rfl (rest := rest) rfl
    (by rw [hb]; exact d6) (by rw [hb]; exact d9) hout hRframes (by simp only [List.map_cons, List.sum_cons, hcat]; omega) hlocks
  obtain ⟨f1, f2⟩ := vx_frame hsame
  rw [hhp] at f1 f2
  have hWs : s.WarmedH U.vm := State.WarmedH.trans hW0 hW
  have hcl : s.vm.findClass cls = some ce.cls := by
    have h9 := hO.cls
    rw [hvm] at h9
    exact h9
  have hall : s.sameButNew ({ U with vm := s.vm } : State) locs mc ms := by
    subst hA
    obtain ⟨e1, e2⟩ := hsame
    rw [State.setFrames_setFrames] at e1
    have h2 : (T.setVm s.vm).sameButNew ({ U with vm := s.vm } : State) [] (0 + 1) (0 + 6) := ⟨e1, e2⟩
    have h3 := X.same.trans h2
    rw [List.append_nil] at h3
    exact h3.mono hc hs
  refine ⟨U, ?_, .threw T.heap.size, hrun, hend, Or.inr ⟨T.heap.size, rfl, cls, ce, locs, hx U hWs.alike f1 (fun q hq => f2 q hq (fun z hz => nomatch hz)), hce, hO.vm, hcl, hWs, hall, hf⟩⟩
  refine st1 _ ?_
  show Steps p.tables e below (T1.setTop { method := m, pc := pc + 3, locals := ls, stack := .ref T.heap.size :: rest, locked := none }) _
  jvm_step X₁.here [X₁.here.top, hexec, d3', Value.category]
  exact X₁.ldcString hexec (own := own) (text := text) (index := is) (a := sa) hown' hstr'.1 hstr'.2
    (g := { method := m, pc := pc + 4, locals := ls, stack := .ref T.heap.size :: .ref T.heap.size :: rest, locked := none }) rfl d4' _ hsteps
/-- 'throw new E("text")', the text by a wide index -/
theorem vx_throwSW {cc : ByteArray} {pc : Nat} (hexec : p.tables.exec = Jvm.exec) (hb : c.code = cc) (hl : l.stackTraces = false) {own cls text : String} {names : List String} {ik is ic mc ms sa : Nat} {A : Nat → Prop}
    (hown : s.vm.findClass own = some m.cls) (hcls : Bundle.fit cls = true) (hnames : ∀ n ∈ names, Bundle.fit n = true)
    (hk : (Cond.classLink own ik cls).before args s = true) (hini : (Cond.initialized cls).before args s = true) (hstr : vk_R own is text sa s) (hat : ∀ w ∈ vx_atS own ic cls names, w.before args s = true)
    (hgood : ∀ w ∈ Cond.classLink own ik cls :: Cond.initialized cls :: vx_atS own ic cls names, vx_ot w = true)
    (hU : vx_Zq Bundle.tN "UNASSIGNED_STACK" Bundle.steD A s s.heap) (hN : vx_Zq Bundle.tN "SUPPRESSED_SENTINEL" Bundle.listD A s s.heap) (hS : va_S A s.heap H locs) (hsize : ls.size = c.maxLocals)
    (d0 : decode cc pc = .ok (.new ik, 3)) (d3 : decode cc (pc + 3) = .ok (.dup, 1)) (d4 : decode cc (pc + 4) = .ok (.ldc_w is, 3)) (d7 : decode cc (pc + 7) = .ok (.invokespecial ic, 3)) (d10 : decode cc (pc + 10) = .ok (.athrow, 1))
    (hout : ∀ x ∈ c.exceptionTable.toList, covers x (pc + 10) = false)
    (hRframes : names.length + 3 < R.frames) (hRlocals : (rest.map fun v => v.category).sum + (13 * (names.length + 1) + 43) ≤ R.locals) (hRcells : cells + 1 ≤ R.cells) (hRslots : slots + 6 ≤ R.slots) (hlocks : meth.locks = false)
    (hx : ∀ t : State, s.vm.Alike t.vm → H.size ≤ t.heap.size → (∀ q : Nat, q < H.size → t.heap[q]? = H[q]?) → XC cls s t)
    (hf : ∀ z ∈ locs, free z.base) (hc : cells + 1 ≤ mc) (hs : slots + 6 ≤ ms) :
    W p l e R s m args below meth c H locs cells slots (vx_MQ below Qc XC args s mc ms free) (F0 m pc ls rest) := by
  intro T hT X
  have htr : e.platform.stackTraces = false := (show e.platform.stackTraces = l.stackTraces by rw [X.admits.platform]).trans hl
  have Y := vx_rebase X (R' := { frames := R.frames, locals := R.locals, cells := 1, slots := 6 }) (Nat.le_refl _) (Nat.le_refl _) hRcells hRslots
  obtain ⟨s', hA⟩ : ∃ z, z = (T.setVm s.vm).setFrames (.invoking m args :: below) := ⟨_, rfl⟩
  rw [← hA] at Y
  have hvm : s'.vm = s.vm := by rw [hA]; rfl
  have hhp : s'.heap = H := by rw [hA]; exact hT
  have hW0 : s.WarmedH s'.vm := by rw [hvm]; exact State.WarmedH.refl s
  have hat' : ∀ w ∈ vx_atS own ic cls names, w.before args s' = true := fun w hw => vx_ot_at hW0 hvm.symm (hgood w (List.mem_cons_of_mem _ (List.mem_cons_of_mem _ hw))) (hat w hw)
  have hk' : (Cond.classLink own ik cls).before args s' = true := vx_ot_at hW0 hvm.symm (hgood _ List.mem_cons_self) hk
  have hini' : (Cond.initialized cls).before args s' = true := vx_ot_at hW0 hvm.symm (hgood _ (List.mem_cons_of_mem _ List.mem_cons_self)) hini
  have hU' : vx_Zq Bundle.tN "UNASSIGNED_STACK" Bundle.steD A s' s'.heap := by rw [hhp]; exact vx_Zq.moved hW0.alike (hU.kept hS.2.1)
  have hN' : vx_Zq Bundle.tN "SUPPRESSED_SENTINEL" Bundle.listD A s' s'.heap := by rw [hhp]; exact vx_Zq.moved hW0.alike (hN.kept hS.2.1)
  have h : ∀ w ∈ Bundle.ownAtoms own ic cls names, w.before args s' = true := vx_own hat' (vx_isRefq hU'.1) (vx_isRefq hN'.1) hU'.2.word hN'.2.word
  have hown' : s'.vm.findClass own = some m.cls := by rw [hvm]; exact hown
  have hins : (Cond.instantiable cls 6).before args s' = true := h _ (by simp [Bundle.ownAtoms])
  obtain ⟨vm₁, cX, kX, hfX, hkX, -, -, X₁, st1⟩ := Y.newCold hexec (own := own) (C := cls) (index := ik) (n := 6) hown' hk' hins hini'
    (g := F0 m pc ls rest) rfl (by rw [hb]; exact d0) (Nat.le_refl _) (Nat.le_refl _)
  generalize hT1 : (T.setVm vm₁).pushCell { cls := cX, slots := kX.instanceTypes.map defaultValue, vm := .none } = T1 at X₁ st1
  have hcat : (Value.ref T.heap.size).category = 1 := rfl
  have hcellA : T1.heap[T.heap.size]? = some (freshCell cX kX) := by rw [← hT1]; exact State.heap_pushCell_size _ _
  have d3' : decode c.code (pc + 3) = .ok (.dup, 1) := by rw [hb]; exact d3
  have d4' : decode c.code (pc + 4) = .ok (.ldc_w is, 3) := by rw [hb]; exact d4
  have hstr' : vk_R own is text sa s' := vk_R.warm hW0 hstr
  obtain ⟨U, hsteps, hrun, hend, hW, hsame, ce, hce, hO⟩ := X₁.ctorThrowS hexec htr (own := own) (cls := cls) (names := names) (ic := ic) hown' hcls hnames h (fun x hx => nomatch hx) hfX hkX hcellA (by rw [hhp, hT]; exact Nat.le_refl _) (msg := .ref sa) rfl
    (g := { method := m, pc := pc + 7, locals := ls, stack := .ref sa :: .ref T.heap.size :: .ref T.heap.size :: rest, locked := none }) rfl hsize rfl rfl (rest := rest) rfl
    (by rw [hb]; exact d7) (by rw [hb]; exact d10) hout hRframes (by simp only [List.map_cons, List.sum_cons, hcat]; omega) hlocks
  obtain ⟨f1, f2⟩ := vx_frame hsame
  rw [hhp] at f1 f2
  have hWs : s.WarmedH U.vm := State.WarmedH.trans hW0 hW
  have hcl : s.vm.findClass cls = some ce.cls := by
    have h9 := hO.cls
    rw [hvm] at h9
    exact h9
  have hall : s.sameButNew ({ U with vm := s.vm } : State) locs mc ms := by
    subst hA
    obtain ⟨e1, e2⟩ := hsame
    rw [State.setFrames_setFrames] at e1
    have h2 : (T.setVm s.vm).sameButNew ({ U with vm := s.vm } : State) [] (0 + 1) (0 + 6) := ⟨e1, e2⟩
    have h3 := X.same.trans h2
    rw [List.append_nil] at h3
    exact h3.mono hc hs
  refine ⟨U, ?_, .threw T.heap.size, hrun, hend, Or.inr ⟨T.heap.size, rfl, cls, ce, locs, hx U hWs.alike f1 (fun q hq => f2 q hq (fun z hz => nomatch hz)), hce, hO.vm, hcl, hWs, hall, hf⟩⟩
  refine st1 _ ?_
  show Steps p.tables e below (T1.setTop { method := m, pc := pc + 3, locals := ls, stack := .ref T.heap.size :: rest, locked := none }) _
  jvm_step X₁.here [X₁.here.top, hexec, d3', Value.category]
  exact X₁.ldcStringW hexec (own := own) (text := text) (index := is) (a := sa) hown' hstr'.1 hstr'.2
    (g := { method := m, pc := pc + 4, locals := ls, stack := .ref T.heap.size :: .ref T.heap.size :: rest, locked := none }) rfl d4' _ hsteps
end Ends
section Bodies
variable {l : Launch}
theorem vx_ofW {y : MethodName} {ws ws' : List Cond} {rm : Room} {Pc : Array Value → State → Prop} {Qc : Array Value → State → Outcome → State → Prop} {XC : String → State → State → Prop} {mc ms : Nat} {free : Addr → Prop} {cc : ByteArray} {maxL : Nat} {ret : Option FieldType}
    (hy : plainName y.cls = true) (hw : ws = Cond.code y cc maxL ret :: ws')
    (body : ∀ p e s m args below meth c s₁, BodyLoose p l y (headSpec ws rm) cc maxL ret e s m args below meth c s₁ → c.maxLocals = maxL → (∀ x ∈ c.exceptionTable.toList, False) → Pc args s →
      W p l e (headSpec ws rm).room s m args below meth c s.heap [] 0 0 (vx_MQ below Qc XC args s mc ms free) (entryFrame m args maxL)) : vx_Met l y ws rm Pc Qc XC mc ms free := by
  refine MetFree.of_bodyS (code := cc) (maxLocals := maxL) (ret := ret) hy ?_ ?_
  · intro args s m h hn
    obtain ⟨meth, c, h1, h2, h3, h4, h5, h6, -, -⟩ := Cond.code_spec hn (atoms_spec (ws := ws) h _ (by rw [hw]; exact List.mem_cons_self))
    exact ⟨meth, c, h1, h2, h3, h4, h5, h6⟩
  · intro p e s m args below meth c s₁ B hml hP _
    have hh0 : s₁.heap = s.heap := by rw [B.state]; rfl
    have ht : ∀ x ∈ c.exceptionTable.toList, False := by
      obtain ⟨meth9, c9, h1, h2, -, -, -, -, h7, -⟩ := Cond.code_spec B.named (atoms_spec (ws := ws) B.pre _ (by rw [hw]; exact List.mem_cons_self))
      cases Option.some.inj (h1.symm.trans B.method)
      cases Option.some.inj (h2.symm.trans (Stand.of_body B).code)
      intro x hx
      rw [Array.isEmpty_iff.mp h7] at hx
      cases hx
    obtain ⟨t, a1, o, b1, b2, b3⟩ := body p e s m args below meth c s₁ B hml ht hP s₁ hh0 (Stand.of_body B)
    exact ⟨t, o, a1, b1, b2, b3⟩
/-- the table of a body with handlers -/
theorem vx_table {p : Program} {x y : MethodName} {S : Spec} {cc bytes : ByteArray} {maxL maxL' : Nat} {ret ret' : Option FieldType} {e : Env} {s s₁ : State} {m : MethodId} {args : Array Value} {below : List Frame} {meth : Method} {c : Code} {hh : List (Nat × Nat × Nat × Nat)}
    (B : BodyLoose p l y S cc maxL ret e s m args below meth c s₁) (h : (Cond.codeWith y bytes maxL' ret' hh).before args s = true) : c.exceptionTable.toList = tableOf hh := by
  obtain ⟨m9, meth9, c9, hn9, h1, h2, -, -, h6, -⟩ := Cond.codeWith_spec h
  cases Option.some.inj (hn9.symm.trans B.named)
  cases Option.some.inj (h1.symm.trans B.method)
  cases Option.some.inj (h2.symm.trans (Stand.of_body B).code)
  rw [← h6, table_eq]
end Bodies
end VXA
/-! ===== END ===== -/
/-! ===== BEGIN a static call of a method with an exception table ===== -/
section VXS
variable {p : Program} {l : Launch} {e : Env} {R : Room} {s : State} {m : MethodId} {args : Array Value} {below : List Frame} {meth : Method} {c : Code} {T : State} {H : Heap} {locs : List Loc} {cells slots : Nat}
abbrev vx_CSW (R : Room) (s : State) (args : Array Value) (own : String) (index : Nat) (y : MethodName) (bytes : ByteArray) (maxL : Nat) (ret : Option FieldType) (hh : List (Nat × Nat × Nat × Nat)) (ws : List Cond) (rm : Room) (mc ms n : Nat) : Prop :=
  (rm.cells = mc ∧ rm.slots = ms ∧ rm.frames + 1 ≤ R.frames ∧ 8 + (maxL + 11) + rm.locals ≤ R.locals ∧ (∀ w ∈ ws, ∀ (a' : Array Value) (U : State), s.WarmedH U.vm → w.before a' U = true) ∧ Cond.codeWith y bytes maxL ret hh ∈ ws) ∧
  (Cond.codeWith y bytes maxL ret hh).before args s = true ∧ (Cond.initialized y.cls).before args s = true ∧ (y.cls ≠ "java/lang/invoke/MethodHandle" ∧ y.cls ≠ "java/lang/invoke/VarHandle") ∧
  (∀ sig, parseMethodDescriptor y.desc = some sig → n = sig.parameters.length) ∧ (Cond.methodLink own index y).before args s = true ∧ (Cond.static y).before args s = true
theorem vx_cwSW {own : String} {index maxL mc ms : Nat} {y : MethodName} {bytes : ByteArray} {ret : Option FieldType} {hh : List (Nat × Nat × Nat × Nat)} {Ts ws ws' : List Cond} {rm : Room} (n : Nat) (ht : ∀ w ∈ Ts, w.before args s = true) (hT : GoodIn Ts (va_wsS own index y ws)) (hw : ws = Cond.codeWith y bytes maxL ret hh :: ws') (hrc : rm.cells = mc) (hrs : rm.slots = ms)
    (hd : y.cls ≠ "java/lang/invoke/MethodHandle" ∧ y.cls ≠ "java/lang/invoke/VarHandle" ∧ (parseMethodDescriptor y.desc).map (fun d => d.parameters.length) = some n) (hR : rm.frames + 1 ≤ R.frames ∧ 8 + (maxL + 11) + rm.locals ≤ R.locals) :
    vx_CSW R s args own index y bytes maxL ret hh ws rm mc ms n := by
  have ok : ∀ w ∈ va_wsS own index y ws, w.before args s = true := fun w h => ht w (hT w h).1
  have hG : GoodIn Ts ws := fun w h => hT w (by unfold va_wsS; exact List.mem_append_right _ h)
  have hc : Cond.codeWith y bytes maxL ret hh ∈ ws := by rw [hw]; exact List.mem_cons_self
  refine ⟨⟨hrc, hrs, hR.1, hR.2, pay_in ht hG, hc⟩, ht _ (hG _ hc).1, ok _ (by simp [va_wsS]), ⟨hd.1, hd.2.1⟩, fun sig h => ?_, ok _ (by simp [va_wsS]), ok _ (by simp [va_wsS])⟩
  have h2 := hd.2.2
  rw [h] at h2
  exact (Option.some.inj h2).symm
theorem vx_callSW (X : Stand p l e R s m args below meth c T locs cells slots) (hexec : p.tables.exec = Jvm.exec) {own : String} {index : Nat} {y : MethodName} {bytes : ByteArray} {maxL : Nat} {ret : Option FieldType} {hh : List (Nat × Nat × Nat × Nat)}
    (hown : s.vm.findClass own = some m.cls) (hlink : (Cond.methodLink own index y).before args s = true) (hstat : (Cond.static y).before args s = true) (hinit : (Cond.initialized y.cls).before args s = true)
    (hcode : (Cond.codeWith y bytes maxL ret hh).before args s = true) (hy : y.cls ≠ "java/lang/invoke/MethodHandle" ∧ y.cls ≠ "java/lang/invoke/VarHandle")
    {W9 : Nat} {Pre : Pt → Array Value → Prop} {Post : Pt → Array Value → Option Value → Pt → Prop} (hK : Back l R p e below s args y 3 W9 Pre Post)
    {g : JFrame} (hg : g.method = m) (hsize : g.locals.size = c.maxLocals) {argsL rest : List Value} (hlen : ∀ sig, parseMethodDescriptor y.desc = some sig → argsL.length = sig.parameters.length)
    (hstack : g.stack = argsL.reverse ++ rest) (hW : 2 * g.monitorRoom + (rest.map fun v => v.category).sum ≤ W9) (hdg : decode c.code g.pc = .ok (.invokestatic index, 3))
    (hpre : ∀ vm₁, s.WarmedH vm₁ → Pre ⟨T.setVm vm₁, locs, cells, slots⟩ argsL.toArray) :
    ∃ (v : Option Value) (vm₁ : Vm) (B : Pt), s.WarmedH vm₁ ∧ Stand p l e R s m args below meth c B.U B.locs B.cells B.slots ∧ Post ⟨T.setVm vm₁, locs, cells, slots⟩ argsL.toArray v B ∧
      ∀ target, Steps p.tables e below (B.U.setTop { g with pc := g.pc + 3, stack := v.toList ++ rest }) target → Steps p.tables e below (T.setTop g) target := by
  obtain ⟨mk, methM, cM, hnamed, hmethM, -, -, -, -, -, -, hsigM⟩ := Cond.codeWith_spec hcode
  have hstatic : methM.isStatic = true := Cond.static_spec hnamed hmethM hstat
  obtain ⟨kP, hkP, -⟩ := className_of_methodNamed hnamed
  have hinitP : kP.init = .initialized := Cond.initialized_spec (findClass_of_methodNamed hnamed) hkP hinit
  obtain ⟨vm₁, X₁, hstep₁⟩ := X.invokestatic hexec hown hlink hnamed hmethM hstatic hkP hinitP hy (g := g) hg (argsL := argsL) (rest := rest) (hlen _ hsigM) hstack hdg
  obtain ⟨v, B, X', hpost, hsteps⟩ := hK m meth c ⟨T.setVm vm₁, locs, cells, slots⟩ { g with stack := rest } (.invokestatic index) mk argsL.toArray X₁ hg hsize hdg hW (X₁.named hnamed) (hpre vm₁ X₁.warmed)
  exact ⟨v, vm₁, B, X₁.warmed, X', hpost, fun target h => hstep₁ _ fun acts => by rw [doInvoke_state]; exact hsteps.trans h⟩
theorem vx_runSW {y : MethodName} {bytes cc : ByteArray} {maxL nL mc ms n index : Nat} {ret : Option FieldType} {hh : List (Nat × Nat × Nat × Nat)} {ws : List Cond} {rm : Room} {Pc : Array Value → State → Prop} {Qc : Array Value → State → Outcome → State → Prop} {free : Addr → Prop} {Ts : List Cond} {own : String} {As rest : List Value} {g : JFrame}
    (S : CallFix p m c cc nL s args Ts own) (hM : Met l y ws rm Pc Qc mc ms free) (cw : vx_CSW R s args own index y bytes maxL ret hh ws rm mc ms n) (hp : PreS s H Pc As)
    (hg : g.method = m) (hn : As.length = n) (hsize : g.locals.size = nL) (hstack : g.stack = As.reverse ++ rest) (hW : 2 * g.monitorRoom + (rest.map fun v => v.category).sum ≤ 8) (hdg : decode cc g.pc = .ok (.invokestatic index, 3)) (hf : cells + mc ≤ R.cells ∧ slots + ms ≤ R.slots) :
    va_Run p l e R s m args below meth c H locs cells slots mc ms g rest (Qc As.toArray) (free) := by
  obtain ⟨⟨hrc, hrs, hfr, hlo, hws, hcw⟩, hcode, hini, hy, hlen, hl, hstt⟩ := cw
  have hK : Back l R p e below s args y 3 8 (PreOf R mc ms Pc) (PostOf Qc mc ms free) := va_backW (hh := hh) (bytes := bytes) (maxL := maxL) (ret := ret) hM hp.1 hrc hrs hfr hlo hws hcw (fun a' U hW => word_at hW (Or.inl (by first | rfl | simp [Cond.onTables, Cond.keeps, Cond.steady])) hini)
  obtain ⟨hx, hb, hml, ho, -⟩ := S
  intro T hT X
  obtain ⟨v, vm₁, ⟨U', l2, c2, s2⟩, hW₁, X', ⟨g', mk, t, L, e1, e2, hq, h1, hL, h2, h3⟩, st⟩ := vx_callSW X hx (hh := hh) (bytes := bytes) (maxL := maxL) (ret := ret) ho hl hstt hini hcode hy hK hg (hsize.trans hml.symm) (argsL := As) (rest := rest) (fun sig h => hn.trans (hlen sig h)) hstack hW (by rw [hb]; exact hdg)
    (fun vm₁ hW₁ => ⟨hf.1, hf.2, hp.2 (T.setVm vm₁) hT hW₁⟩)
  dsimp only [Pt.U, Pt.locs, Pt.cells, Pt.slots] at X' e1 e2 h1 h2 h3 st
  subst h1; subst h2; subst h3
  exact ⟨v, (T.setVm vm₁).calling g' mk As.toArray, t, U', L, hT, X', hL, e1, e2, hq, st⟩
/-- not caught here, past rows that name other classes: it goes on to the caller -/
theorem vx_outP {p : Program} {l : Launch} {e : Env} {R : Room} {s : State} {m : MethodId} {args : Array Value} {below : List Frame} {meth : Method} {c : Code} {H : Heap} {locs : List Loc} {cells slots : Nat} {free : Addr → Prop} {ls : Array Slot} {rest : List Value} {Qc : Array Value → State → Outcome → State → Prop} {XC : String → State → State → Prop}
    {pc : Nat} {own E : String} {ce : Cell} {q : Addr} {mc ms : Nat} (hown : s.vm.findClass own = some m.cls) (hlocks : meth.locks = false)
    (hpass : ∀ z ∈ c.exceptionTable.toList, covers z pc = false ∨ (z.catchType ≠ 0 ∧ ∃ nm : String, (Cond.classLink own z.catchType nm).before args s = true ∧ va_Nc E nm s)) (hcell : H[q]? = some ce) (hv : ce.vm = .none) (hcl : s.vm.findClass E = some ce.cls)
    (hx : ∀ t : State, t.heap = H → s.vm.Alike t.vm → XC E s t) (hf : ∀ z ∈ locs, free z.base) (hc : cells ≤ mc) (hs : slots ≤ ms) :
    vx_W p l e R s m args below meth c H locs cells slots (vx_MQ below Qc XC args s mc ms free) (F0 m pc ls rest) q := by
  intro T hT X
  have hpl : e.platform.magicAccessors = ({} : Platform).magicAccessors := by rw [X.admits.platform]
  obtain ⟨vm', hW', X', st⟩ := X.outThrough hlocks q (g := F0 m pc ls rest) rfl rfl rfl (cell := ce) (by rw [hT]; exact hcell) (by rw [hv]; rfl)
    (by obtain ⟨k9, h9, -⟩ := Vm.findClass_spec hcl; exact ⟨k9, h9⟩) (fun z hz => by
      rcases hpass z hz with h | ⟨hz0, nm, hl1, hn1⟩
      · exact Or.inl h
      · obtain ⟨c6, hc6, hcl6⟩ := Cond.classLink_spec hown hl1 e.platform hpl
        obtain ⟨a8, b8, h1, h2, h3⟩ := hn1
        cases Option.some.inj (h1.symm.trans hcl)
        cases Option.some.inj (h2.symm.trans hc6)
        exact Or.inr ⟨hz0, _, hcl6, h3⟩)
  obtain ⟨g₀, hfr⟩ := X'.frames_eq
  have hcell9 : ((T.setVm vm').setFrames (.throwing q :: below)).heap[q]? = some ce := by
    show T.heap[q]? = some ce
    rw [hT]; exact hcell
  have hend : Ended ((T.setVm vm').setFrames (.throwing q :: below)) below (.threw q) := State.frames_setFrames _ (State.cur_lt_of_frames hfr)
  refine ⟨(T.setVm vm').setFrames (.throwing q :: below), ?_, .threw q, X'.here.running, hend, Or.inr ⟨q, rfl, E, ce, locs, hx _ hT (X'.ends _).1.alike, hcell9, hv, hcl, (X'.ends _).1, (X'.ends _).2.mono hc hs, hf⟩⟩
  rw [X.pushThrowing_eq]
  exact st
/-- a thing of a world lies in the heap -/
theorem vx_lt {D : va_G} {cl : List vw_C} {ws : va_W} {H1 : Heap} (h : va_P D cl ws H1) {k : Nat} {q : Nat × va_E} (hk : ws[k]? = some q) : q.1 < H1.size := (h k q hk).lt
end VXS
/-! ===== END ===== -/
/-! ===== BEGIN methods with a table of their own: called by a name, returning or throwing ===== -/
section VXH
/-! vx_backW, vx_callVX, vx_callSX, vx_callVW, vx_runVW, vx_runVX, vx_runSX, vx_ofWH follow the same proofs as their sisters above (Free/Laws.lean, Shelf42/LK1.lean); vx_outP calls Shelf42/NT130.lean (outThrough). -/
section
variable {l : Launch} {R : Room} {p : Program} {e : Env} {below : List Frame} {s : State} {sargs : Array Value} {y : MethodName} {len W9 : Nat}
theorem vx_backW {ws : List Cond} {rm : Room} {Pc : Array Value → State → Prop} {Qc : Array Value → State → Outcome → State → Prop} {XC : String → State → State → Prop} {mc ms : Nat} {free : Addr → Prop} {bytes : ByteArray} {maxL : Nat} {ret : Option FieldType} {hh : List (Nat × Nat × Nat × Nat)}
    (hM : vx_Met l y ws rm Pc Qc XC mc ms free) (hblind : FrameBlind Pc) (hrc : rm.cells = mc) (hrs : rm.slots = ms)
    (hframes : rm.frames + 1 ≤ R.frames) (hlocals : W9 + (maxL + 11) + rm.locals ≤ R.locals)
    (hws : ∀ w ∈ ws, ∀ a' U, s.WarmedH U.vm → w.before a' U = true) (hcode : Cond.codeWith y bytes maxL ret hh ∈ ws) (hinit : ∀ a' U, s.WarmedH U.vm → (Cond.initialized y.cls).before a' U = true) :
    vx_Back l R p e below s sargs y len W9 (PreOf R mc ms Pc) (PostOf Qc mc ms free) (vx_Post XC mc ms free) := by
  intro m meth c A g ig mk a X hg hsize hdg hW hn hp
  have h1 : (headSpec ws rm).pre.before a A.U = true := atoms_intro fun w hw => hws w hw _ _ X.warmed
  have h2 : (Cond.codeWith y bytes maxL ret hh).before a A.U = true := hws _ hcode _ _ X.warmed
  have h3 : (Cond.initialized y.cls).before a A.U = true := hinit _ _ X.warmed
  have h4 : A.cells + (headSpec ws rm).room.cells ≤ R.cells := by rw [show (headSpec ws rm).room.cells = mc from hrc]; exact hp.1
  have h5 : A.slots + (headSpec ws rm).room.slots ≤ R.slots := by rw [show (headSpec ws rm).room.slots = ms from hrs]; exact hp.2.1
  have hPc : Pc a (A.U.calling g mk a) := hblind _ _ _ _ hp.2.2
  obtain ⟨U, Ls, c0, s0⟩ := A
  dsimp only [Pt.U, Pt.locs, Pt.cells, Pt.slots] at h1 h2 h3 h4 h5 X hn hPc ⊢
  obtain ⟨m9, methY, cY, hn9, hmY, hcY, -, hlY, -⟩ := Cond.codeWith_spec h2
  cases Option.some.inj (hn9.symm.trans hn)
  obtain ⟨kY, hkY, -⟩ := className_of_methodNamed hn
  have hinitY : kY.init = .initialized := Cond.initialized_spec (findClass_of_methodNamed hn) hkY h3
  have h : At U g.method c below := by rw [hg]; exact X.here
  have hlocals9 : W9 + (maxL + 11) + (headSpec ws rm).room.locals ≤ R.locals := hlocals
  have happ : (headSpec ws rm).appliesLoose y e.platform (U.calling g mk a) = true :=
    Spec.appliesLoose_calling (g := g) h hdg hn hkY hinitY
      (X.room_calling (g := g) (R' := (headSpec ws rm).room) hsize hmY hcY hframes (by rw [hlY]; omega) h4 h5) h1
  obtain ⟨mid, hmid⟩ := h.above
  have hfr : (U.setTop g).frames = (.java g :: mid) ++ below := by rw [State.frames_setTop' g h.top, hmid]; rfl
  obtain ⟨o, s₂, hsteps, -, hend, hq⟩ := Steps.callFree hM p X.admits X.cas X.clock (acts := []) hfr happ hPc trivial
  have hq' : vx_Q Qc XC mc ms free a (U.calling g mk a) o s₂ := hq
  rw [State.frames_setTop' g h.top] at hend
  obtain ⟨g₀, hg0⟩ := Option.isSome_iff_exists.mp h.top
  obtain ⟨r, hr⟩ := State.topJava?_eq_some.mp hg0
  have hr' : (({ U with heap := s₂.heap, slotsUsed := s₂.slotsUsed } : State).setVm s₂.vm).frames = .java g₀ :: r := hr
  rcases hq' with ⟨hqc, L, hfe, hL⟩ | ⟨q, rfl, E, ce, L, hx, hce, hcv, hcl, hW₂, hsm, hL⟩
  · obtain ⟨⟨v, rfl⟩, hW₂, e2, q2, q3, q4, q5, q6⟩ := id hfe
    have e3 : s₂ = ({ (U.calling g mk a).setFrames s₂.frames with heap := s₂.heap, slotsUsed := s₂.slotsUsed } : State).setVm s₂.vm := by
      have : s₂ = ({ s₂ with vm := (U.calling g mk a).vm } : State).setVm s₂.vm := rfl
      rw [e2] at this
      exact this
    obtain ⟨c₂, i₂, len₂, hc₂, hd₂, hf₂⟩ := hend
    have hW' : U.WarmedH s₂.vm := hW₂
    have hcc : c₂ = c := by
      have h1 : s₂.code? g.method = U.code? g.method := by
        rw [State.code?_eq, State.code?_eq, hW'.alike.method?]
      exact Option.some.inj (hc₂.symm.trans (h1.trans h.code))
    subst hcc
    have hlen : len₂ = len := by rw [hdg] at hd₂; cases hd₂; rfl
    subst hlen
    have hs₂ : s₂ = (({ U with heap := s₂.heap, slotsUsed := s₂.slotsUsed } : State).setVm s₂.vm).setTop { g with pc := g.pc + len₂, stack := v.toList ++ g.stack } := by
      refine e3.trans ?_
      rw [hf₂, State.calling_eq h.top, State.setFrames_setFrames, State.setTop_of_frames _ hr', hr]
      rfl
    have hsame : U.sameButNew ({ U with heap := s₂.heap, slotsUsed := s₂.slotsUsed } : State) L mc ms := by
      refine ⟨?_, q2, q3, q4, q5, q6⟩
      obtain ⟨t, ht, -⟩ := State.frames_cons hr
      show ({ U with heap := s₂.heap, slotsUsed := s₂.slotsUsed } : State) = { U.setFrames U.frames with heap := s₂.heap, slotsUsed := s₂.slotsUsed }
      rw [State.setFrames_self ht]
    subst hg
    refine Or.inl ⟨v, ⟨(({ U with heap := s₂.heap, slotsUsed := s₂.slotsUsed } : State).setVm s₂.vm), Ls ++ L, c0 + mc, s0 + ms⟩,
      ⟨X.admits, X.cas, X.clock, X.frames, X.room, X.hears, X.method, X.code, (X.here.setHeapUsed s₂.heap s₂.slotsUsed).setVm hW'.alike, X.tail, State.WarmedH.trans X.warmed hW', X.limits, X.bytes, X.same.trans (hsame.setVm s.vm)⟩,
      ⟨g, mk, s₂, L, rfl, rfl, hqc, rfl, hL, rfl, rfl⟩, ?_⟩
    show Steps p.tables e below _ ((({ U with heap := s₂.heap, slotsUsed := s₂.slotsUsed } : State).setVm s₂.vm).setTop { g with pc := g.pc + len₂, stack := v.toList ++ g.stack })
    rw [← hs₂]
    exact hsteps
  · obtain ⟨e2, q2, q3, q4, q5, q6⟩ := id hsm
    have e3 : s₂ = ({ (U.calling g mk a).setFrames s₂.frames with heap := s₂.heap, slotsUsed := s₂.slotsUsed } : State).setVm s₂.vm := by
      have : s₂ = ({ s₂ with vm := (U.calling g mk a).vm } : State).setVm s₂.vm := rfl
      rw [e2] at this
      exact this
    have hf₂ : s₂.frames = .throwing q :: .java g :: U.frames.tail := hend
    have hW' : U.WarmedH s₂.vm := hW₂
    have hs₂ : s₂ = ((({ U with heap := s₂.heap, slotsUsed := s₂.slotsUsed } : State).setVm s₂.vm).setTop g).pushFrame (.throwing q) := by
      refine e3.trans ?_
      rw [hf₂, State.calling_eq h.top, State.setFrames_setFrames, State.pushFrame, State.frames_setTop _ hr', State.setTop_of_frames _ hr', State.setFrames_setFrames, hr]
      rfl
    have hsame : U.sameButNew ({ U with heap := s₂.heap, slotsUsed := s₂.slotsUsed } : State) L mc ms := by
      refine ⟨?_, q2, q3, q4, q5, q6⟩
      obtain ⟨t, ht, -⟩ := State.frames_cons hr
      show ({ U with heap := s₂.heap, slotsUsed := s₂.slotsUsed } : State) = { U.setFrames U.frames with heap := s₂.heap, slotsUsed := s₂.slotsUsed }
      rw [State.setFrames_self ht]
    subst hg
    refine Or.inr ⟨q, ⟨(({ U with heap := s₂.heap, slotsUsed := s₂.slotsUsed } : State).setVm s₂.vm), Ls ++ L, c0 + mc, s0 + ms⟩,
      ⟨X.admits, X.cas, X.clock, X.frames, X.room, X.hears, X.method, X.code, (X.here.setHeapUsed s₂.heap s₂.slotsUsed).setVm hW'.alike, X.tail, State.WarmedH.trans X.warmed hW', X.limits, X.bytes, X.same.trans (hsame.setVm s.vm)⟩,
      ⟨g, mk, s₂, L, E, ce, rfl, rfl, hx, hce, hcv, hcl, rfl, hL, rfl, rfl⟩, ?_⟩
    show Steps p.tables e below _ (((({ U with heap := s₂.heap, slotsUsed := s₂.slotsUsed } : State).setVm s₂.vm).setTop g).pushFrame (.throwing q))
    rw [← hs₂]
    exact hsteps
end
variable {p : Program} {l : Launch} {e : Env} {R : Room} {s : State} {m : MethodId} {args : Array Value} {below : List Frame} {meth : Method} {c : Code} {T : State} {H : Heap} {locs : List Loc} {cells slots : Nat}
theorem vx_callVX (X : Stand p l e R s m args below meth c T locs cells slots) (hexec : p.tables.exec = Jvm.exec) {own C : String} {index : Nat} {y : MethodName} {bytes : ByteArray} {maxL : Nat} {ret : Option FieldType} {hh : List (Nat × Nat × Nat × Nat)}
    (hown : s.vm.findClass own = some m.cls) (hlink : (Cond.methodLink own index y).before args s = true) (hinst : (Cond.instanceMethod y).before args s = true) (hsel : (Cond.selects C y y).before args s = true)
    (hcode : (Cond.codeWith y bytes maxL ret hh).before args s = true) (hy : y.cls ≠ "java/lang/invoke/MethodHandle" ∧ y.cls ≠ "java/lang/invoke/VarHandle")
    {W9 : Nat} {Pre : Pt → Array Value → Prop} {Post : Pt → Array Value → Option Value → Pt → Prop} {PostX : Pt → Array Value → Addr → Pt → Prop} (hK : vx_Back l R p e below s args y 3 W9 Pre Post PostX)
    {b : Addr} {cellB : Cell} (hcell : T.heap[b]? = some cellB) (hobj : cellB.vm.isStatics = false) (hcls : s.vm.findClass C = some cellB.cls)
    {g : JFrame} (hg : g.method = m) (hsize : g.locals.size = c.maxLocals) {argsL rest : List Value} (hlen : ∀ sig, parseMethodDescriptor y.desc = some sig → argsL.length = sig.parameters.length)
    (hstack : g.stack = argsL.reverse ++ .ref b :: rest) (hW : 2 * g.monitorRoom + (rest.map fun v => v.category).sum ≤ W9) (hdg : decode c.code g.pc = .ok (.invokevirtual index, 3))
    (hpre : ∀ vm₁, s.WarmedH vm₁ → Pre ⟨T.setVm vm₁, locs, cells, slots⟩ (Value.ref b :: argsL).toArray) :
    (∃ (v : Option Value) (vm₁ : Vm) (B : Pt), s.WarmedH vm₁ ∧ Stand p l e R s m args below meth c B.U B.locs B.cells B.slots ∧ Post ⟨T.setVm vm₁, locs, cells, slots⟩ (Value.ref b :: argsL).toArray v B ∧
      ∀ target, Steps p.tables e below (B.U.setTop { g with pc := g.pc + 3, stack := v.toList ++ rest }) target → Steps p.tables e below (T.setTop g) target) ∨
    (∃ (q : Addr) (vm₁ : Vm) (B : Pt), s.WarmedH vm₁ ∧ Stand p l e R s m args below meth c B.U B.locs B.cells B.slots ∧ PostX ⟨T.setVm vm₁, locs, cells, slots⟩ (Value.ref b :: argsL).toArray q B ∧
      Steps p.tables e below (T.setTop g) ((B.U.setTop { g with stack := rest }).pushFrame (.throwing q))) := by
  obtain ⟨mk, methM, hnamed, hmethM, hstM, habM⟩ := Cond.instanceMethod_spec hinst
  obtain ⟨m8, methM', cM, hn8, hmethM', -, -, -, -, -, -, hsigM⟩ := Cond.codeWith_spec hcode
  cases Option.some.inj (hn8.symm.trans hnamed)
  cases hmethM.symm.trans hmethM'
  obtain ⟨c2, r2, m2, q1, q2, q3, q4, kP, hkP, hkPi⟩ := Cond.selects_spec hsel
  cases hcls.symm.trans q1
  cases (State.methodFound?_of_named hnamed hy).symm.trans q2
  cases hnamed.symm.trans q3
  have hselP : selectMethod e.platform s.vm cellB.cls mk = .method mk := by rw [Launch.admits_selectMethod X.admits]; exact q4
  obtain ⟨vm₁, X₁, hstep₁⟩ := X.invokevirtual hexec hown hlink hnamed hmethM hstM hkP hkPi hy (a := b) (cell := cellB) hcell
    (fun z h => by rw [h] at hobj; cases hobj) hselP hmethM habM hkP hkPi (g := g) hg (argsL := argsL) (rest := rest) (hlen _ hsigM) hstack hdg
  rcases hK m meth c ⟨T.setVm vm₁, locs, cells, slots⟩ { g with stack := rest } (.invokevirtual index) mk (Value.ref b :: argsL).toArray X₁ hg hsize hdg hW (X₁.named hnamed) (hpre vm₁ X₁.warmed) with ⟨v, B, X', hpost, hsteps⟩ | ⟨q, B, X', hpost, hsteps⟩
  · exact Or.inl ⟨v, vm₁, B, X₁.warmed, X', hpost, fun target h => hstep₁ _ fun acts => by rw [doInvoke_state]; exact hsteps.trans h⟩
  · exact Or.inr ⟨q, vm₁, B, X₁.warmed, X', hpost, hstep₁ _ fun acts => by rw [doInvoke_state]; exact hsteps⟩
theorem vx_callSX (X : Stand p l e R s m args below meth c T locs cells slots) (hexec : p.tables.exec = Jvm.exec) {own : String} {index : Nat} {y : MethodName} {bytes : ByteArray} {maxL : Nat} {ret : Option FieldType} {hh : List (Nat × Nat × Nat × Nat)}
    (hown : s.vm.findClass own = some m.cls) (hlink : (Cond.methodLink own index y).before args s = true) (hstat : (Cond.static y).before args s = true) (hinit : (Cond.initialized y.cls).before args s = true)
    (hcode : (Cond.codeWith y bytes maxL ret hh).before args s = true) (hy : y.cls ≠ "java/lang/invoke/MethodHandle" ∧ y.cls ≠ "java/lang/invoke/VarHandle")
    {W9 : Nat} {Pre : Pt → Array Value → Prop} {Post : Pt → Array Value → Option Value → Pt → Prop} {PostX : Pt → Array Value → Addr → Pt → Prop} (hK : vx_Back l R p e below s args y 3 W9 Pre Post PostX)
    {g : JFrame} (hg : g.method = m) (hsize : g.locals.size = c.maxLocals) {argsL rest : List Value} (hlen : ∀ sig, parseMethodDescriptor y.desc = some sig → argsL.length = sig.parameters.length)
    (hstack : g.stack = argsL.reverse ++ rest) (hW : 2 * g.monitorRoom + (rest.map fun v => v.category).sum ≤ W9) (hdg : decode c.code g.pc = .ok (.invokestatic index, 3))
    (hpre : ∀ vm₁, s.WarmedH vm₁ → Pre ⟨T.setVm vm₁, locs, cells, slots⟩ argsL.toArray) :
    (∃ (v : Option Value) (vm₁ : Vm) (B : Pt), s.WarmedH vm₁ ∧ Stand p l e R s m args below meth c B.U B.locs B.cells B.slots ∧ Post ⟨T.setVm vm₁, locs, cells, slots⟩ argsL.toArray v B ∧
      ∀ target, Steps p.tables e below (B.U.setTop { g with pc := g.pc + 3, stack := v.toList ++ rest }) target → Steps p.tables e below (T.setTop g) target) ∨
    (∃ (q : Addr) (vm₁ : Vm) (B : Pt), s.WarmedH vm₁ ∧ Stand p l e R s m args below meth c B.U B.locs B.cells B.slots ∧ PostX ⟨T.setVm vm₁, locs, cells, slots⟩ argsL.toArray q B ∧
      Steps p.tables e below (T.setTop g) ((B.U.setTop { g with stack := rest }).pushFrame (.throwing q))) := by
  obtain ⟨mk, methM, cM, hnamed, hmethM, -, -, -, -, -, -, hsigM⟩ := Cond.codeWith_spec hcode
  have hstatic : methM.isStatic = true := Cond.static_spec hnamed hmethM hstat
  obtain ⟨kP, hkP, -⟩ := className_of_methodNamed hnamed
  have hinitP : kP.init = .initialized := Cond.initialized_spec (findClass_of_methodNamed hnamed) hkP hinit
  obtain ⟨vm₁, X₁, hstep₁⟩ := X.invokestatic hexec hown hlink hnamed hmethM hstatic hkP hinitP hy (g := g) hg (argsL := argsL) (rest := rest) (hlen _ hsigM) hstack hdg
  rcases hK m meth c ⟨T.setVm vm₁, locs, cells, slots⟩ { g with stack := rest } (.invokestatic index) mk argsL.toArray X₁ hg hsize hdg hW (X₁.named hnamed) (hpre vm₁ X₁.warmed) with ⟨v, B, X', hpost, hsteps⟩ | ⟨q, B, X', hpost, hsteps⟩
  · exact Or.inl ⟨v, vm₁, B, X₁.warmed, X', hpost, fun target h => hstep₁ _ fun acts => by rw [doInvoke_state]; exact hsteps.trans h⟩
  · exact Or.inr ⟨q, vm₁, B, X₁.warmed, X', hpost, hstep₁ _ fun acts => by rw [doInvoke_state]; exact hsteps⟩
theorem vx_callVW (X : Stand p l e R s m args below meth c T locs cells slots) (hexec : p.tables.exec = Jvm.exec) {own C : String} {index : Nat} {y : MethodName} {bytes : ByteArray} {maxL : Nat} {ret : Option FieldType} {hh : List (Nat × Nat × Nat × Nat)}
    (hown : s.vm.findClass own = some m.cls) (hlink : (Cond.methodLink own index y).before args s = true) (hinst : (Cond.instanceMethod y).before args s = true) (hsel : (Cond.selects C y y).before args s = true)
    (hcode : (Cond.codeWith y bytes maxL ret hh).before args s = true) (hy : y.cls ≠ "java/lang/invoke/MethodHandle" ∧ y.cls ≠ "java/lang/invoke/VarHandle")
    {W9 : Nat} {Pre : Pt → Array Value → Prop} {Post : Pt → Array Value → Option Value → Pt → Prop} (hK : Back l R p e below s args y 3 W9 Pre Post)
    {b : Addr} {cellB : Cell} (hcell : T.heap[b]? = some cellB) (hobj : cellB.vm.isStatics = false) (hcls : s.vm.findClass C = some cellB.cls)
    {g : JFrame} (hg : g.method = m) (hsize : g.locals.size = c.maxLocals) {argsL rest : List Value} (hlen : ∀ sig, parseMethodDescriptor y.desc = some sig → argsL.length = sig.parameters.length)
    (hstack : g.stack = argsL.reverse ++ .ref b :: rest) (hW : 2 * g.monitorRoom + (rest.map fun v => v.category).sum ≤ W9) (hdg : decode c.code g.pc = .ok (.invokevirtual index, 3))
    (hpre : ∀ vm₁, s.WarmedH vm₁ → Pre ⟨T.setVm vm₁, locs, cells, slots⟩ (Value.ref b :: argsL).toArray) :
    ∃ (v : Option Value) (vm₁ : Vm) (B : Pt), s.WarmedH vm₁ ∧ Stand p l e R s m args below meth c B.U B.locs B.cells B.slots ∧ Post ⟨T.setVm vm₁, locs, cells, slots⟩ (Value.ref b :: argsL).toArray v B ∧
      ∀ target, Steps p.tables e below (B.U.setTop { g with pc := g.pc + 3, stack := v.toList ++ rest }) target → Steps p.tables e below (T.setTop g) target := by
  obtain ⟨mk, methM, hnamed, hmethM, hstM, habM⟩ := Cond.instanceMethod_spec hinst
  obtain ⟨m8, methM', cM, hn8, hmethM', -, -, -, -, -, -, hsigM⟩ := Cond.codeWith_spec hcode
  cases Option.some.inj (hn8.symm.trans hnamed)
  cases hmethM.symm.trans hmethM'
  obtain ⟨c2, r2, m2, q1, q2, q3, q4, kP, hkP, hkPi⟩ := Cond.selects_spec hsel
  cases hcls.symm.trans q1
  cases (State.methodFound?_of_named hnamed hy).symm.trans q2
  cases hnamed.symm.trans q3
  have hselP : selectMethod e.platform s.vm cellB.cls mk = .method mk := by rw [Launch.admits_selectMethod X.admits]; exact q4
  obtain ⟨vm₁, X₁, hstep₁⟩ := X.invokevirtual hexec hown hlink hnamed hmethM hstM hkP hkPi hy (a := b) (cell := cellB) hcell
    (fun z h => by rw [h] at hobj; cases hobj) hselP hmethM habM hkP hkPi (g := g) hg (argsL := argsL) (rest := rest) (hlen _ hsigM) hstack hdg
  obtain ⟨v, B, X', hpost, hsteps⟩ := hK m meth c ⟨T.setVm vm₁, locs, cells, slots⟩ { g with stack := rest } (.invokevirtual index) mk (Value.ref b :: argsL).toArray X₁ hg hsize hdg hW (X₁.named hnamed) (hpre vm₁ X₁.warmed)
  exact ⟨v, vm₁, B, X₁.warmed, X', hpost, fun target h => hstep₁ _ fun acts => by rw [doInvoke_state]; exact hsteps.trans h⟩
abbrev vx_CVW (R : Room) (s : State) (args : Array Value) (own C : String) (index : Nat) (y : MethodName) (bytes : ByteArray) (maxL : Nat) (ret : Option FieldType) (hh : List (Nat × Nat × Nat × Nat)) (ws : List Cond) (rm : Room) (mc ms n : Nat) : Prop :=
  (rm.cells = mc ∧ rm.slots = ms ∧ rm.frames + 1 ≤ R.frames ∧ 8 + (maxL + 11) + rm.locals ≤ R.locals ∧ (∀ w ∈ ws, ∀ (a' : Array Value) (U : State), s.WarmedH U.vm → w.before a' U = true) ∧ Cond.codeWith y bytes maxL ret hh ∈ ws) ∧
  (Cond.codeWith y bytes maxL ret hh).before args s = true ∧ (Cond.initialized y.cls).before args s = true ∧ (y.cls ≠ "java/lang/invoke/MethodHandle" ∧ y.cls ≠ "java/lang/invoke/VarHandle") ∧
  (∀ sig, parseMethodDescriptor y.desc = some sig → n = sig.parameters.length) ∧ (Cond.methodLink own index y).before args s = true ∧ (Cond.instanceMethod y).before args s = true ∧ (Cond.selects C y y).before args s = true
theorem vx_cwVW {own C : String} {index maxL mc ms : Nat} {y : MethodName} {bytes : ByteArray} {ret : Option FieldType} {hh : List (Nat × Nat × Nat × Nat)} {Ts ws ws' : List Cond} {rm : Room} (n : Nat) (ht : ∀ w ∈ Ts, w.before args s = true) (hT : GoodIn Ts (wsV own index C y ws)) (hw : ws = Cond.codeWith y bytes maxL ret hh :: ws') (hrc : rm.cells = mc) (hrs : rm.slots = ms)
    (hd : y.cls = C ∧ y.cls ≠ "java/lang/invoke/MethodHandle" ∧ y.cls ≠ "java/lang/invoke/VarHandle" ∧ (parseMethodDescriptor y.desc).map (fun d => d.parameters.length) = some n) (hR : rm.frames + 1 ≤ R.frames ∧ 8 + (maxL + 11) + rm.locals ≤ R.locals) :
    vx_CVW R s args own C index y bytes maxL ret hh ws rm mc ms n := by
  obtain ⟨hC, hd⟩ := hd
  subst hC
  have ok : ∀ w ∈ wsV own index y.cls y ws, w.before args s = true := fun w h => ht w (hT w h).1
  have hG : GoodIn Ts ws := fun w h => hT w (by unfold wsV; exact List.mem_append_right _ h)
  have hc : Cond.codeWith y bytes maxL ret hh ∈ ws := by rw [hw]; exact List.mem_cons_self
  refine ⟨⟨hrc, hrs, hR.1, hR.2, pay_in ht hG, hc⟩, ht _ (hG _ hc).1, ok _ (by simp [wsV]), ⟨hd.1, hd.2.1⟩, fun sig h => ?_, ok _ (by simp [wsV]), ok _ (by simp [wsV]), ok _ (by simp [wsV])⟩
  have h2 := hd.2.2
  rw [h] at h2
  exact (Option.some.inj h2).symm
theorem vx_runVW {y : MethodName} {bytes cc : ByteArray} {maxL nL mc ms n index : Nat} {ret : Option FieldType} {hh : List (Nat × Nat × Nat × Nat)} {ws : List Cond} {rm : Room} {Pc : Array Value → State → Prop} {Qc : Array Value → State → Outcome → State → Prop} {free : Addr → Prop} {Ts : List Cond} {own C : String} {b : Addr} {As rest : List Value} {g : JFrame}
    (S : CallFix p m c cc nL s args Ts own) (hM : Met l y ws rm Pc Qc mc ms free) (cw : vx_CVW R s args own C index y bytes maxL ret hh ws rm mc ms n) (hp : PreV s H C b Pc As)
    (hg : g.method = m) (hn : As.length = n) (hsize : g.locals.size = nL) (hstack : g.stack = As.reverse ++ .ref b :: rest) (hW : 2 * g.monitorRoom + (rest.map fun v => v.category).sum ≤ 8) (hdg : decode cc g.pc = .ok (.invokevirtual index, 3)) (hf : cells + mc ≤ R.cells ∧ slots + ms ≤ R.slots) :
    va_Run p l e R s m args below meth c H locs cells slots mc ms g rest (Qc (Value.ref b :: As).toArray) free := by
  obtain ⟨⟨hrc, hrs, hfr, hlo, hws, hcw⟩, hcode, hini, hy, hlen, hl, hin, hse⟩ := cw
  have hK : Back l R p e below s args y 3 8 (PreOf R mc ms Pc) (PostOf Qc mc ms free) := va_backW (hh := hh) (bytes := bytes) (maxL := maxL) (ret := ret) hM hp.1 hrc hrs hfr hlo hws hcw (fun a' U hW => word_at hW (Or.inl (by first | rfl | simp [Cond.onTables, Cond.keeps, Cond.steady])) hini)
  obtain ⟨hx, hb, hml, ho, -⟩ := S
  obtain ⟨-, ⟨cellB, hcB, hoB, hclB⟩, hPc⟩ := hp
  intro T hT X
  obtain ⟨v, vm₁, ⟨U', l2, c2, s2⟩, hW₁, X', ⟨g', mk, t, L, e1, e2, hq, h1, hL, h2, h3⟩, st⟩ := vx_callVW X hx (C := C) (hh := hh) (bytes := bytes) (maxL := maxL) (ret := ret) ho hl hin hse hcode hy hK (by rw [hT]; exact hcB) hoB hclB hg (hsize.trans hml.symm) (argsL := As) (rest := rest) (fun sig h => hn.trans (hlen sig h)) hstack hW (by rw [hb]; exact hdg)
    (fun vm₁ hW₁ => ⟨hf.1, hf.2, hPc (T.setVm vm₁) hT hW₁⟩)
  dsimp only [Pt.U, Pt.locs, Pt.cells, Pt.slots] at X' e1 e2 h1 h2 h3 st
  subst h1; subst h2; subst h3
  exact ⟨v, (T.setVm vm₁).calling g' mk (Value.ref b :: As).toArray, t, U', L, hT, X', hL, e1, e2, hq, st⟩
section
variable {y : MethodName} {bytes cc : ByteArray} {maxL nL mc ms n index : Nat} {ret : Option FieldType} {ws : List Cond} {rm : Room} {Pc : Array Value → State → Prop} {Qc : Array Value → State → Outcome → State → Prop} {XC : String → State → State → Prop} {free : Addr → Prop} {Ts : List Cond} {own C : String} {b : Addr} {As rest : List Value} {g : JFrame}
theorem vx_runVX {hh : List (Nat × Nat × Nat × Nat)} (S : CallFix p m c cc nL s args Ts own) (hM : vx_Met l y ws rm Pc Qc XC mc ms free) (cw : vx_CVW R s args own C index y bytes maxL ret hh ws rm mc ms n) (hp : PreV s H C b Pc As)
    (hg : g.method = m) (hn : As.length = n) (hsize : g.locals.size = nL) (hstack : g.stack = As.reverse ++ .ref b :: rest) (hW : 2 * g.monitorRoom + (rest.map fun v => v.category).sum ≤ 8) (hdg : decode cc g.pc = .ok (.invokevirtual index, 3)) (hf : cells + mc ≤ R.cells ∧ slots + ms ≤ R.slots) :
    vx_Run p l e R s m args below meth c H locs cells slots mc ms g rest (Qc (Value.ref b :: As).toArray) XC free := by
  obtain ⟨⟨hrc, hrs, hfr, hlo, hws, hcw⟩, hcode, hini, hy, hlen, hl, hin, hse⟩ := cw
  have hK : vx_Back l R p e below s args y 3 8 (PreOf R mc ms Pc) (PostOf Qc mc ms free) (vx_Post XC mc ms free) := vx_backW (hh := hh) (bytes := bytes) (maxL := maxL) (ret := ret) hM hp.1 hrc hrs hfr hlo hws hcw (fun a' U hW => word_at hW (Or.inl (by first | rfl | simp [Cond.onTables, Cond.keeps, Cond.steady])) hini)
  obtain ⟨hx, hb, hml, ho, -⟩ := S
  obtain ⟨-, ⟨cellB, hcB, hoB, hclB⟩, hPc⟩ := hp
  intro T hT X
  rcases vx_callVX X hx (C := C) (hh := hh) (bytes := bytes) (maxL := maxL) (ret := ret) ho hl hin hse hcode hy hK (by rw [hT]; exact hcB) hoB hclB hg (hsize.trans hml.symm) (argsL := As) (rest := rest) (fun sig h => hn.trans (hlen sig h)) hstack hW (by rw [hb]; exact hdg)
    (fun vm₁ hW₁ => ⟨hf.1, hf.2, hPc (T.setVm vm₁) hT hW₁⟩) with ⟨v, vm₁, ⟨U', l2, c2, s2⟩, hW₁, X', ⟨g', mk, t, L, e1, e2, hq, h1, hL, h2, h3⟩, st⟩ | ⟨q, vm₁, ⟨U', l2, c2, s2⟩, hW₁, X', ⟨g', mk, t, L, E, ce, e1, e2, hq, hce, hcv, hcl, h1, hL, h2, h3⟩, st⟩
  · dsimp only [Pt.U, Pt.locs, Pt.cells, Pt.slots] at X' e1 e2 h1 h2 h3 st
    subst h1; subst h2; subst h3
    exact Or.inl ⟨v, (T.setVm vm₁).calling g' mk (Value.ref b :: As).toArray, t, U', L, hT, X', hL, e1, e2, hq, st⟩
  · dsimp only [Pt.U, Pt.locs, Pt.cells, Pt.slots] at X' e1 e2 h1 h2 h3 st hcl
    subst h1; subst h2; subst h3
    exact Or.inr ⟨q, (T.setVm vm₁).calling g' mk (Value.ref b :: As).toArray, t, U', L, E, ce, hT, X', hL, e1, e2, hq, hce, hcv, vx_cls hW₁ hcl, st⟩
theorem vx_runSX {hh : List (Nat × Nat × Nat × Nat)} (S : CallFix p m c cc nL s args Ts own) (hM : vx_Met l y ws rm Pc Qc XC mc ms free) (cw : vx_CSW R s args own index y bytes maxL ret hh ws rm mc ms n) (hp : PreS s H Pc As)
    (hg : g.method = m) (hn : As.length = n) (hsize : g.locals.size = nL) (hstack : g.stack = As.reverse ++ rest) (hW : 2 * g.monitorRoom + (rest.map fun v => v.category).sum ≤ 8) (hdg : decode cc g.pc = .ok (.invokestatic index, 3)) (hf : cells + mc ≤ R.cells ∧ slots + ms ≤ R.slots) :
    vx_Run p l e R s m args below meth c H locs cells slots mc ms g rest (Qc As.toArray) XC free := by
  obtain ⟨⟨hrc, hrs, hfr, hlo, hws, hcw⟩, hcode, hini, hy, hlen, hl, hstt⟩ := cw
  have hK : vx_Back l R p e below s args y 3 8 (PreOf R mc ms Pc) (PostOf Qc mc ms free) (vx_Post XC mc ms free) := vx_backW (hh := hh) (bytes := bytes) (maxL := maxL) (ret := ret) hM hp.1 hrc hrs hfr hlo hws hcw (fun a' U hW => word_at hW (Or.inl (by first | rfl | simp [Cond.onTables, Cond.keeps, Cond.steady])) hini)
  obtain ⟨hx, hb, hml, ho, -⟩ := S
  intro T hT X
  rcases vx_callSX X hx (hh := hh) (bytes := bytes) (maxL := maxL) (ret := ret) ho hl hstt hini hcode hy hK hg (hsize.trans hml.symm) (argsL := As) (rest := rest) (fun sig h => hn.trans (hlen sig h)) hstack hW (by rw [hb]; exact hdg)
    (fun vm₁ hW₁ => ⟨hf.1, hf.2, hp.2 (T.setVm vm₁) hT hW₁⟩) with ⟨v, vm₁, ⟨U', l2, c2, s2⟩, hW₁, X', ⟨g', mk, t, L, e1, e2, hq, h1, hL, h2, h3⟩, st⟩ | ⟨q, vm₁, ⟨U', l2, c2, s2⟩, hW₁, X', ⟨g', mk, t, L, E, ce, e1, e2, hq, hce, hcv, hcl, h1, hL, h2, h3⟩, st⟩
  · dsimp only [Pt.U, Pt.locs, Pt.cells, Pt.slots] at X' e1 e2 h1 h2 h3 st
    subst h1; subst h2; subst h3
    exact Or.inl ⟨v, (T.setVm vm₁).calling g' mk As.toArray, t, U', L, hT, X', hL, e1, e2, hq, st⟩
  · dsimp only [Pt.U, Pt.locs, Pt.cells, Pt.slots] at X' e1 e2 h1 h2 h3 st hcl
    subst h1; subst h2; subst h3
    exact Or.inr ⟨q, (T.setVm vm₁).calling g' mk As.toArray, t, U', L, E, ce, hT, X', hL, e1, e2, hq, hce, hcv, vx_cls hW₁ hcl, st⟩
end
end VXH
theorem vx_ofWH {l : Launch} {y : MethodName} {ws ws' : List Cond} {rm : Room} {Pc : Array Value → State → Prop} {Qc : Array Value → State → Outcome → State → Prop} {XC : String → State → State → Prop} {mc ms : Nat} {free : Addr → Prop} {cc : ByteArray} {maxL : Nat} {ret : Option FieldType} {hh : List (Nat × Nat × Nat × Nat)}
    (hy : plainName y.cls = true) (hw : ws = Cond.codeWith y cc maxL ret hh :: ws')
    (body : ∀ p e s m args below meth c s₁, BodyLoose p l y (headSpec ws rm) cc maxL ret e s m args below meth c s₁ → c.maxLocals = maxL → Pc args s →
      W p l e (headSpec ws rm).room s m args below meth c s.heap [] 0 0 (vx_MQ below Qc XC args s mc ms free) (entryFrame m args maxL)) : vx_Met l y ws rm Pc Qc XC mc ms free := by
  refine MetFree.of_bodyS (code := cc) (maxLocals := maxL) (ret := ret) hy ?_ ?_
  · intro args s m h hn
    obtain ⟨m9, meth, c, hn9, h1, h2, h3, h4, -, h5, h6, -⟩ := Cond.codeWith_spec (atoms_spec (ws := ws) h _ (by rw [hw]; exact List.mem_cons_self))
    cases hn.symm.trans hn9
    exact ⟨meth, c, h1, h2, h3, h4, h5, h6⟩
  · intro p e s m args below meth c s₁ B hml hP _
    have hh0 : s₁.heap = s.heap := by rw [B.state]; rfl
    obtain ⟨t, a1, o, b1, b2, b3⟩ := body p e s m args below meth c s₁ B hml hP s₁ hh0 (Stand.of_body B)
    exact ⟨t, o, a1, b1, b2, b3⟩
/-! ===== END ===== -/
end
section
def RX0 : String := "LampRhythms$Chart"
def TX0 : u_T := fun k => match k with
  | 0 => ("LampRhythms$Chart", "patterns", "[I", true)
  | _ => ("LampRhythms$Chart", "notices", "I", false)
def tyX0 : Nat → FieldType := fun k => match k with
  | 0 => .array .int
  | _ => .int
abbrev wsX00 : List Cond := u_ws RX0 TX0 2
theorem nmX0 : ∀ a, a < 2 → ∀ b, b < 2 → a ≠ b → (TX0 a).2.1 ≠ (TX0 b).2.1 := by decide +kernel
theorem tyX0_ok : ∀ k, k < 2 → parseFieldDescriptor (TX0 k).2.2.1 = some (tyX0 k) := by decide +kernel
abbrev cX0_init : ByteArray := prog_2_method_1_code
def yX0_init : MethodName := ⟨RX0, "<init>", "()V"⟩
abbrev cX0_putIn : ByteArray := prog_2_method_2_code
def yX0_putIn : MethodName := ⟨RX0, "putIn", "(LLampRhythms$Notice;)V"⟩
abbrev cX0_patternOf : ByteArray := prog_2_method_3_code
def yX0_patternOf : MethodName := ⟨RX0, "patternOf", "(I)I"⟩
def RX1 : String := "LampRhythms$Lamp"
def TX1 : u_T := fun k => match k with
  | 0 => ("LampRhythms$Lamp", "x", "I", true)
  | 1 => ("LampRhythms$Lamp", "y", "I", true)
  | 2 => ("LampRhythms$Lamp", "sight", "[I", true)
  | 3 => ("LampRhythms$Lamp", "pattern", "I", false)
  | 4 => ("LampRhythms$Lamp", "begins", "I", false)
  | _ => ("LampRhythms$Lamp", "failed", "Z", false)
def tyX1 : Nat → FieldType := fun k => match k with
  | 0 => .int
  | 1 => .int
  | 2 => .array .int
  | 3 => .int
  | 4 => .int
  | _ => .boolean
abbrev wsX10 : List Cond := u_ws RX1 TX1 6
theorem nmX1 : ∀ a, a < 6 → ∀ b, b < 6 → a ≠ b → (TX1 a).2.1 ≠ (TX1 b).2.1 := by decide +kernel
theorem tyX1_ok : ∀ k, k < 6 → parseFieldDescriptor (TX1 k).2.2.1 = some (tyX1 k) := by decide +kernel
abbrev cX1_init : ByteArray := prog_3_method_1_code
def yX1_init : MethodName := ⟨RX1, "<init>", "(IIIII)V"⟩
abbrev cX1_isWithin : ByteArray := prog_3_method_2_code
def yX1_isWithin : MethodName := ⟨RX1, "isWithin", "(IIII)Z"⟩
abbrev cX1_sectorOf : ByteArray := prog_3_method_3_code
def yX1_sectorOf : MethodName := ⟨RX1, "sectorOf", "(II)I"⟩
abbrev cX1_quarterOf : ByteArray := prog_3_method_4_code
def yX1_quarterOf : MethodName := ⟨RX1, "quarterOf", "(II)I"⟩
abbrev cX1_canBeSeenFrom : ByteArray := prog_3_method_5_code
def yX1_canBeSeenFrom : MethodName := ⟨RX1, "canBeSeenFrom", "(II)Z"⟩
abbrev cX1_placesSharedWith : ByteArray := prog_3_method_6_code
def yX1_placesSharedWith : MethodName := ⟨RX1, "placesSharedWith", "(LLampRhythms$Lamp;)I"⟩
def RX2 : String := "LampRhythms$Notice"
def TX2 : u_T := fun k => match k with
  | 0 => ("LampRhythms$Notice", "lamp", "I", true)
  | _ => ("LampRhythms$Notice", "pattern", "I", true)
def tyX2 : Nat → FieldType := fun k => match k with
  | 0 => .int
  | _ => .int
abbrev wsX20 : List Cond := u_ws RX2 TX2 2
theorem nmX2 : ∀ a, a < 2 → ∀ b, b < 2 → a ≠ b → (TX2 a).2.1 ≠ (TX2 b).2.1 := by decide +kernel
theorem tyX2_ok : ∀ k, k < 2 → parseFieldDescriptor (TX2 k).2.2.1 = some (tyX2 k) := by decide +kernel
abbrev cX2_init : ByteArray := prog_4_method_1_code
def yX2_init : MethodName := ⟨RX2, "<init>", "(II)V"⟩
def RX3 : String := "LampRhythms$Pattern"
def TX3 : u_T := fun k => match k with
  | 0 => ("LampRhythms$Pattern", "phases", "[I", true)
  | 1 => ("LampRhythms$Pattern", "period", "I", true)
  | 2 => ("LampRhythms$Pattern", "light", "J", true)
  | _ => ("LampRhythms$Pattern", "cycle", "I", true)
def tyX3 : Nat → FieldType := fun k => match k with
  | 0 => .array .int
  | 1 => .int
  | 2 => .long
  | _ => .int
abbrev wsX30 : List Cond := u_ws RX3 TX3 4
theorem nmX3 : ∀ a, a < 4 → ∀ b, b < 4 → a ≠ b → (TX3 a).2.1 ≠ (TX3 b).2.1 := by decide +kernel
theorem tyX3_ok : ∀ k, k < 4 → parseFieldDescriptor (TX3 k).2.2.1 = some (tyX3 k) := by decide +kernel
abbrev cX3_init : ByteArray := prog_5_method_1_code
def yX3_init : MethodName := ⟨RX3, "<init>", "([I)V"⟩
abbrev cX3_cycleOf : ByteArray := prog_5_method_2_code
def yX3_cycleOf : MethodName := ⟨RX3, "cycleOf", "([I)I"⟩
abbrev cX3_repeatsAfter : ByteArray := prog_5_method_3_code
def yX3_repeatsAfter : MethodName := ⟨RX3, "repeatsAfter", "([II)Z"⟩
abbrev cX3_isLight : ByteArray := prog_5_method_4_code
def yX3_isLight : MethodName := ⟨RX3, "isLight", "(I)Z"⟩
abbrev cX3_hasPhasesOf : ByteArray := prog_5_method_5_code
def yX3_hasPhasesOf : MethodName := ⟨RX3, "hasPhasesOf", "(LLampRhythms$Pattern;)Z"⟩
abbrev cX3_hasPhasesTurned : ByteArray := prog_5_method_6_code
def yX3_hasPhasesTurned : MethodName := ⟨RX3, "hasPhasesTurned", "(LLampRhythms$Pattern;I)Z"⟩
abbrev cX3_hasSecondsOf : ByteArray := prog_5_method_7_code
def yX3_hasSecondsOf : MethodName := ⟨RX3, "hasSecondsOf", "(LLampRhythms$Pattern;)Z"⟩
abbrev cX3_hasSecondsLater : ByteArray := prog_5_method_8_code
def yX3_hasSecondsLater : MethodName := ⟨RX3, "hasSecondsLater", "(LLampRhythms$Pattern;I)Z"⟩
abbrev cX3_canLookLike : ByteArray := prog_5_method_9_code
def yX3_canLookLike : MethodName := ⟨RX3, "canLookLike", "(JI)Z"⟩
abbrev cX3_looksLike : ByteArray := prog_5_method_10_code
def yX3_looksLike : MethodName := ⟨RX3, "looksLike", "(JII)Z"⟩
def RX4 : String := "LampRhythms"
def TX4 : u_T := fun k => match k with
  | 0 => ("LampRhythms", "draft", "[I", true)
  | 1 => ("LampRhythms", "drafted", "I", false)
  | 2 => ("LampRhythms", "patterns", "Ljava/util/ArrayList;", true)
  | 3 => ("LampRhythms", "lamps", "Ljava/util/ArrayList;", true)
  | 4 => ("LampRhythms", "told", "Ljava/util/ArrayList;", true)
  | _ => ("LampRhythms", "charts", "Ljava/util/ArrayList;", true)
def tyX4 : Nat → FieldType := fun k => match k with
  | 0 => .array .int
  | 1 => .int
  | 2 => .object "java/util/ArrayList"
  | 3 => .object "java/util/ArrayList"
  | 4 => .object "java/util/ArrayList"
  | _ => .object "java/util/ArrayList"
abbrev wsX40 : List Cond := u_ws RX4 TX4 6
theorem nmX4 : ∀ a, a < 6 → ∀ b, b < 6 → a ≠ b → (TX4 a).2.1 ≠ (TX4 b).2.1 := by decide +kernel
theorem tyX4_ok : ∀ k, k < 6 → parseFieldDescriptor (TX4 k).2.2.1 = some (tyX4 k) := by decide +kernel
abbrev cX4_init : ByteArray := prog_1_method_1_code
def yX4_init : MethodName := ⟨RX4, "<init>", "()V"⟩
abbrev cX4_phase : ByteArray := prog_1_method_2_code
def yX4_phase : MethodName := ⟨RX4, "phase", "(I)I"⟩
abbrev cX4_pattern : ByteArray := prog_1_method_3_code
def yX4_pattern : MethodName := ⟨RX4, "pattern", "()I"⟩
abbrev cX4_period : ByteArray := prog_1_method_4_code
def yX4_period : MethodName := ⟨RX4, "period", "(I)I"⟩
abbrev cX4_areAlike : ByteArray := prog_1_method_5_code
def yX4_areAlike : MethodName := ⟨RX4, "areAlike", "(II)Z"⟩
abbrev cX4_areAlikeBySeconds : ByteArray := prog_1_method_6_code
def yX4_areAlikeBySeconds : MethodName := ⟨RX4, "areAlikeBySeconds", "(II)Z"⟩
abbrev cX4_lamp : ByteArray := prog_1_method_7_code
def yX4_lamp : MethodName := ⟨RX4, "lamp", "(IIIII)I"⟩
abbrev cX4_change : ByteArray := prog_1_method_8_code
def yX4_change : MethodName := ⟨RX4, "change", "(III)I"⟩
abbrev cX4_fail : ByteArray := prog_1_method_9_code
def yX4_fail : MethodName := ⟨RX4, "fail", "(IZ)I"⟩
abbrev cX4_shines : ByteArray := prog_1_method_10_code
def yX4_shines : MethodName := ⟨RX4, "shines", "(II)Z"⟩
abbrev cX4_sector : ByteArray := prog_1_method_11_code
def yX4_sector : MethodName := ⟨RX4, "sector", "(III)I"⟩
abbrev cX4_isSeen : ByteArray := prog_1_method_12_code
def yX4_isSeen : MethodName := ⟨RX4, "isSeen", "(III)Z"⟩
abbrev cX4_common : ByteArray := prog_1_method_13_code
def yX4_common : MethodName := ⟨RX4, "common", "(II)I"⟩
abbrev cX4_clashes : ByteArray := prog_1_method_14_code
def yX4_clashes : MethodName := ⟨RX4, "clashes", "()I"⟩
abbrev cX4_notices : ByteArray := prog_1_method_15_code
def yX4_notices : MethodName := ⟨RX4, "notices", "()I"⟩
abbrev cX4_print : ByteArray := prog_1_method_16_code
def yX4_print : MethodName := ⟨RX4, "print", "()I"⟩
abbrev cX4_correct : ByteArray := prog_1_method_17_code
def yX4_correct : MethodName := ⟨RX4, "correct", "(II)I"⟩
abbrev cX4_behind : ByteArray := prog_1_method_18_code
def yX4_behind : MethodName := ⟨RX4, "behind", "(I)I"⟩
abbrev cX4_shown : ByteArray := prog_1_method_19_code
def yX4_shown : MethodName := ⟨RX4, "shown", "(II)I"⟩
abbrev cX4_taken : ByteArray := prog_1_method_20_code
def yX4_taken : MethodName := ⟨RX4, "taken", "(IIIIII)I"⟩
abbrev cX4_requireWithin : ByteArray := prog_1_method_21_code
def yX4_requireWithin : MethodName := ⟨RX4, "requireWithin", "(III)V"⟩
abbrev cX4_requirePlace : ByteArray := prog_1_method_22_code
def yX4_requirePlace : MethodName := ⟨RX4, "requirePlace", "(II)V"⟩
abbrev cX4_requirePattern : ByteArray := prog_1_method_23_code
def yX4_requirePattern : MethodName := ⟨RX4, "requirePattern", "(I)V"⟩
abbrev cX4_requireLamp : ByteArray := prog_1_method_24_code
def yX4_requireLamp : MethodName := ⟨RX4, "requireLamp", "(I)V"⟩
abbrev cX4_patternAt : ByteArray := prog_1_method_25_code
def yX4_patternAt : MethodName := ⟨RX4, "patternAt", "(I)LLampRhythms$Pattern;"⟩
abbrev cX4_lampAt : ByteArray := prog_1_method_26_code
def yX4_lampAt : MethodName := ⟨RX4, "lampAt", "(I)LLampRhythms$Lamp;"⟩
abbrev cX4_chartAt : ByteArray := prog_1_method_27_code
def yX4_chartAt : MethodName := ⟨RX4, "chartAt", "(I)LLampRhythms$Chart;"⟩
abbrev cX4_isLit : ByteArray := prog_1_method_28_code
def yX4_isLit : MethodName := ⟨RX4, "isLit", "(LLampRhythms$Lamp;I)Z"⟩
abbrev cX4_clash : ByteArray := prog_1_method_29_code
def yX4_clash : MethodName := ⟨RX4, "clash", "(LLampRhythms$Lamp;LLampRhythms$Lamp;)Z"⟩
abbrev cX4_tell : ByteArray := prog_1_method_30_code
def yX4_tell : MethodName := ⟨RX4, "tell", "(I)I"⟩
abbrev cX4_lackOf : ByteArray := prog_1_method_31_code
def yX4_lackOf : MethodName := ⟨RX4, "lackOf", "(LLampRhythms$Chart;)I"⟩
abbrev cX4_putIn : ByteArray := prog_1_method_32_code
def yX4_putIn : MethodName := ⟨RX4, "putIn", "(LLampRhythms$Chart;I)V"⟩
abbrev cX4_lookAt : ByteArray := prog_1_method_33_code
def yX4_lookAt : MethodName := ⟨RX4, "lookAt", "(LLampRhythms$Lamp;II)J"⟩
def RX5 : String := "LampRhythmsModel"
def TX5 : u_T := fun k => match k with
  | 0 => ("LampRhythmsModel", "draft", "[I", true)
  | 1 => ("LampRhythmsModel", "drafted", "I", false)
  | 2 => ("LampRhythmsModel", "patterns", "I", false)
  | 3 => ("LampRhythmsModel", "phase", "[I", true)
  | 4 => ("LampRhythmsModel", "phases", "[I", true)
  | 5 => ("LampRhythmsModel", "period", "[I", true)
  | 6 => ("LampRhythmsModel", "lamps", "I", false)
  | 7 => ("LampRhythmsModel", "left", "[I", true)
  | 8 => ("LampRhythmsModel", "up", "[I", true)
  | 9 => ("LampRhythmsModel", "has", "[I", true)
  | 10 => ("LampRhythmsModel", "begun", "[I", true)
  | 11 => ("LampRhythmsModel", "reach", "[I", true)
  | 12 => ("LampRhythmsModel", "sectors", "[I", true)
  | 13 => ("LampRhythmsModel", "failed", "[Z", true)
  | 14 => ("LampRhythmsModel", "notice", "[I", true)
  | 15 => ("LampRhythmsModel", "notices", "I", false)
  | 16 => ("LampRhythmsModel", "charts", "I", false)
  | 17 => ("LampRhythmsModel", "told", "[I", true)
  | 18 => ("LampRhythmsModel", "shows", "[I", true)
  | _ => ("LampRhythmsModel", "thrown", "I", false)
def tyX5 : Nat → FieldType := fun k => match k with
  | 0 => .array .int
  | 1 => .int
  | 2 => .int
  | 3 => .array .int
  | 4 => .array .int
  | 5 => .array .int
  | 6 => .int
  | 7 => .array .int
  | 8 => .array .int
  | 9 => .array .int
  | 10 => .array .int
  | 11 => .array .int
  | 12 => .array .int
  | 13 => .array .boolean
  | 14 => .array .int
  | 15 => .int
  | 16 => .int
  | 17 => .array .int
  | 18 => .array .int
  | _ => .int
abbrev wsX50 : List Cond := u_ws RX5 TX5 20
theorem nmX5 : ∀ a, a < 20 → ∀ b, b < 20 → a ≠ b → (TX5 a).2.1 ≠ (TX5 b).2.1 := by decide +kernel
theorem tyX5_ok : ∀ k, k < 20 → parseFieldDescriptor (TX5 k).2.2.1 = some (tyX5 k) := by decide +kernel
abbrev cX5_init : ByteArray := prog_7_method_1_code
def yX5_init : MethodName := ⟨RX5, "<init>", "()V"⟩
abbrev cX5_thrown : ByteArray := prog_7_method_2_code
def yX5_thrown : MethodName := ⟨RX5, "thrown", "()I"⟩
abbrev cX5_isIn : ByteArray := prog_7_method_3_code
def yX5_isIn : MethodName := ⟨RX5, "isIn", "(III)Z"⟩
abbrev cX5_isPattern : ByteArray := prog_7_method_4_code
def yX5_isPattern : MethodName := ⟨RX5, "isPattern", "(I)Z"⟩
abbrev cX5_isLamp : ByteArray := prog_7_method_5_code
def yX5_isLamp : MethodName := ⟨RX5, "isLamp", "(I)Z"⟩
abbrev cX5_isChart : ByteArray := prog_7_method_6_code
def yX5_isChart : MethodName := ⟨RX5, "isChart", "(I)Z"⟩
abbrev cX5_isPlace : ByteArray := prog_7_method_7_code
def yX5_isPlace : MethodName := ⟨RX5, "isPlace", "(II)Z"⟩
abbrev cX5_phase : ByteArray := prog_7_method_8_code
def yX5_phase : MethodName := ⟨RX5, "phase", "(I)I"⟩
abbrev cX5_pattern : ByteArray := prog_7_method_9_code
def yX5_pattern : MethodName := ⟨RX5, "pattern", "()I"⟩
abbrev cX5_period : ByteArray := prog_7_method_10_code
def yX5_period : MethodName := ⟨RX5, "period", "(I)I"⟩
abbrev cX5_isLight : ByteArray := prog_7_method_11_code
def yX5_isLight : MethodName := ⟨RX5, "isLight", "(II)Z"⟩
abbrev cX5_returns : ByteArray := prog_7_method_12_code
def yX5_returns : MethodName := ⟨RX5, "returns", "(I)I"⟩
abbrev cX5_alike : ByteArray := prog_7_method_13_code
def yX5_alike : MethodName := ⟨RX5, "alike", "(II)Z"⟩
abbrev cX5_asksAlike : ByteArray := prog_7_method_14_code
def yX5_asksAlike : MethodName := ⟨RX5, "asksAlike", "(II)Z"⟩
abbrev cX5_areAlike : ByteArray := prog_7_method_15_code
def yX5_areAlike : MethodName := ⟨RX5, "areAlike", "(II)Z"⟩
abbrev cX5_areAlikeBySeconds : ByteArray := prog_7_method_16_code
def yX5_areAlikeBySeconds : MethodName := ⟨RX5, "areAlikeBySeconds", "(II)Z"⟩
abbrev cX5_tells : ByteArray := prog_7_method_17_code
def yX5_tells : MethodName := ⟨RX5, "tells", "(I)I"⟩
abbrev cX5_lamp : ByteArray := prog_7_method_18_code
def yX5_lamp : MethodName := ⟨RX5, "lamp", "(IIIII)I"⟩
abbrev cX5_change : ByteArray := prog_7_method_19_code
def yX5_change : MethodName := ⟨RX5, "change", "(III)I"⟩
abbrev cX5_fail : ByteArray := prog_7_method_20_code
def yX5_fail : MethodName := ⟨RX5, "fail", "(IZ)I"⟩
abbrev cX5_isOn : ByteArray := prog_7_method_21_code
def yX5_isOn : MethodName := ⟨RX5, "isOn", "(II)Z"⟩
abbrev cX5_shines : ByteArray := prog_7_method_22_code
def yX5_shines : MethodName := ⟨RX5, "shines", "(II)Z"⟩
abbrev cX5_sectorOf : ByteArray := prog_7_method_23_code
def yX5_sectorOf : MethodName := ⟨RX5, "sectorOf", "(III)I"⟩
abbrev cX5_sees : ByteArray := prog_7_method_24_code
def yX5_sees : MethodName := ⟨RX5, "sees", "(III)Z"⟩
abbrev cX5_asks : ByteArray := prog_7_method_25_code
def yX5_asks : MethodName := ⟨RX5, "asks", "(III)Z"⟩
abbrev cX5_sector : ByteArray := prog_7_method_26_code
def yX5_sector : MethodName := ⟨RX5, "sector", "(III)I"⟩
abbrev cX5_isSeen : ByteArray := prog_7_method_27_code
def yX5_isSeen : MethodName := ⟨RX5, "isSeen", "(III)Z"⟩
abbrev cX5_both : ByteArray := prog_7_method_28_code
def yX5_both : MethodName := ⟨RX5, "both", "(II)I"⟩
abbrev cX5_common : ByteArray := prog_7_method_29_code
def yX5_common : MethodName := ⟨RX5, "common", "(II)I"⟩
abbrev cX5_clashes : ByteArray := prog_7_method_30_code
def yX5_clashes : MethodName := ⟨RX5, "clashes", "()I"⟩
abbrev cX5_notices : ByteArray := prog_7_method_31_code
def yX5_notices : MethodName := ⟨RX5, "notices", "()I"⟩
abbrev cX5_puts : ByteArray := prog_7_method_32_code
def yX5_puts : MethodName := ⟨RX5, "puts", "(II)I"⟩
abbrev cX5_print : ByteArray := prog_7_method_33_code
def yX5_print : MethodName := ⟨RX5, "print", "()I"⟩
abbrev cX5_correct : ByteArray := prog_7_method_34_code
def yX5_correct : MethodName := ⟨RX5, "correct", "(II)I"⟩
abbrev cX5_behind : ByteArray := prog_7_method_35_code
def yX5_behind : MethodName := ⟨RX5, "behind", "(I)I"⟩
abbrev cX5_shown : ByteArray := prog_7_method_36_code
def yX5_shown : MethodName := ⟨RX5, "shown", "(II)I"⟩
abbrev cX5_could : ByteArray := prog_7_method_37_code
def yX5_could : MethodName := ⟨RX5, "could", "(IIII)Z"⟩
abbrev cX5_taken : ByteArray := prog_7_method_38_code
def yX5_taken : MethodName := ⟨RX5, "taken", "(IIIIII)I"⟩
def RJx145de : String := "java/io/Serializable"
def TJx145de : u_T := fun k => match k with
  | _ => ("", "", "", false)
def tyJx145de : Nat → FieldType := fun k => match k with
  | _ => .int
abbrev wsJx145de0 : List Cond := u_ws RJx145de TJx145de 0
theorem nmJx145de : ∀ a, a < 0 → ∀ b, b < 0 → a ≠ b → (TJx145de a).2.1 ≠ (TJx145de b).2.1 := by decide +kernel
theorem tyJx145de_ok : ∀ k, k < 0 → parseFieldDescriptor (TJx145de k).2.2.1 = some (tyJx145de k) := by decide +kernel
def RJx8e188 : String := "java/lang/Cloneable"
def TJx8e188 : u_T := fun k => match k with
  | _ => ("", "", "", false)
def tyJx8e188 : Nat → FieldType := fun k => match k with
  | _ => .int
abbrev wsJx8e1880 : List Cond := u_ws RJx8e188 TJx8e188 0
theorem nmJx8e188 : ∀ a, a < 0 → ∀ b, b < 0 → a ≠ b → (TJx8e188 a).2.1 ≠ (TJx8e188 b).2.1 := by decide +kernel
theorem tyJx8e188_ok : ∀ k, k < 0 → parseFieldDescriptor (TJx8e188 k).2.2.1 = some (tyJx8e188 k) := by decide +kernel
def RJ6 : String := "java/lang/Integer"
def TJ6 : u_T := fun k => match k with
  | _ => ("", "", "", false)
def tyJ6 : Nat → FieldType := fun k => match k with
  | _ => .int
abbrev wsJ60 : List Cond := u_ws RJ6 TJ6 0
theorem nmJ6 : ∀ a, a < 0 → ∀ b, b < 0 → a ≠ b → (TJ6 a).2.1 ≠ (TJ6 b).2.1 := by decide +kernel
theorem tyJ6_ok : ∀ k, k < 0 → parseFieldDescriptor (TJ6 k).2.2.1 = some (tyJ6 k) := by decide +kernel
abbrev cJ6_bitCount_0f7a4 : ByteArray := prog_14_method_49_code
def yJ6_bitCount_0f7a4 : MethodName := ⟨RJ6, "bitCount", "(I)I"⟩
def RJxab1ab : String := "java/lang/Iterable"
def TJxab1ab : u_T := fun k => match k with
  | _ => ("", "", "", false)
def tyJxab1ab : Nat → FieldType := fun k => match k with
  | _ => .int
abbrev wsJxab1ab0 : List Cond := u_ws RJxab1ab TJxab1ab 0
theorem nmJxab1ab : ∀ a, a < 0 → ∀ b, b < 0 → a ≠ b → (TJxab1ab a).2.1 ≠ (TJxab1ab b).2.1 := by decide +kernel
theorem tyJxab1ab_ok : ∀ k, k < 0 → parseFieldDescriptor (TJxab1ab k).2.2.1 = some (tyJxab1ab k) := by decide +kernel
def RJ9 : String := "java/lang/Math"
def TJ9 : u_T := fun k => match k with
  | _ => ("", "", "", false)
def tyJ9 : Nat → FieldType := fun k => match k with
  | _ => .int
abbrev wsJ90 : List Cond := u_ws RJ9 TJ9 0
theorem nmJ9 : ∀ a, a < 0 → ∀ b, b < 0 → a ≠ b → (TJ9 a).2.1 ≠ (TJ9 b).2.1 := by decide +kernel
theorem tyJ9_ok : ∀ k, k < 0 → parseFieldDescriptor (TJ9 k).2.2.1 = some (tyJ9 k) := by decide +kernel
abbrev cJ9_abs_0f7a4 : ByteArray := prog_16_method_59_code
def yJ9_abs_0f7a4 : MethodName := ⟨RJ9, "abs", "(I)I"⟩
abbrev cJ9_max_7cf53 : ByteArray := prog_16_method_65_code
def yJ9_max_7cf53 : MethodName := ⟨RJ9, "max", "(II)I"⟩
abbrev cJ9_min_7cf53 : ByteArray := prog_16_method_69_code
def yJ9_min_7cf53 : MethodName := ⟨RJ9, "min", "(II)I"⟩
def RJ0 : String := "java/lang/String"
def TJ0 : u_T := fun k => match k with
  | _ => ("", "", "", false)
def tyJ0 : Nat → FieldType := fun k => match k with
  | _ => .int
abbrev wsJ00 : List Cond := u_ws RJ0 TJ0 0
theorem nmJ0 : ∀ a, a < 0 → ∀ b, b < 0 → a ≠ b → (TJ0 a).2.1 ≠ (TJ0 b).2.1 := by decide +kernel
theorem tyJ0_ok : ∀ k, k < 0 → parseFieldDescriptor (TJ0 k).2.2.1 = some (tyJ0 k) := by decide +kernel
def RJ10 : String := "java/lang/System"
def TJ10 : u_T := fun k => match k with
  | _ => ("", "", "", false)
def tyJ10 : Nat → FieldType := fun k => match k with
  | _ => .int
abbrev wsJ100 : List Cond := u_ws RJ10 TJ10 0
theorem nmJ10 : ∀ a, a < 0 → ∀ b, b < 0 → a ≠ b → (TJ10 a).2.1 ≠ (TJ10 b).2.1 := by decide +kernel
theorem tyJ10_ok : ∀ k, k < 0 → parseFieldDescriptor (TJ10 k).2.2.1 = some (tyJ10 k) := by decide +kernel
def RJxa1e45 : String := "java/util/AbstractCollection"
def TJxa1e45 : u_T := fun k => match k with
  | _ => ("", "", "", false)
def tyJxa1e45 : Nat → FieldType := fun k => match k with
  | _ => .int
abbrev wsJxa1e450 : List Cond := u_ws RJxa1e45 TJxa1e45 0
theorem nmJxa1e45 : ∀ a, a < 0 → ∀ b, b < 0 → a ≠ b → (TJxa1e45 a).2.1 ≠ (TJxa1e45 b).2.1 := by decide +kernel
theorem tyJxa1e45_ok : ∀ k, k < 0 → parseFieldDescriptor (TJxa1e45 k).2.2.1 = some (tyJxa1e45 k) := by decide +kernel
abbrev cJxa1e45_init_da8c8 : ByteArray := prog_21_method_1_code
def yJxa1e45_init_da8c8 : MethodName := ⟨RJxa1e45, "<init>", "()V"⟩
def RJxc12de : String := "java/util/AbstractList"
def TJxc12de : u_T := fun k => match k with
  | _ => ("", "", "", false)
def tyJxc12de : Nat → FieldType := fun k => match k with
  | _ => .int
abbrev wsJxc12de0 : List Cond := u_ws RJxc12de TJxc12de 0
theorem nmJxc12de : ∀ a, a < 0 → ∀ b, b < 0 → a ≠ b → (TJxc12de a).2.1 ≠ (TJxc12de b).2.1 := by decide +kernel
theorem tyJxc12de_ok : ∀ k, k < 0 → parseFieldDescriptor (TJxc12de k).2.2.1 = some (tyJxc12de k) := by decide +kernel
abbrev cJxc12de_init_da8c8 : ByteArray := prog_22_method_1_code
def yJxc12de_init_da8c8 : MethodName := ⟨RJxc12de, "<init>", "()V"⟩
def RJx4a65c : String := "java/util/ArrayList"
def TJx4a65c : u_T := fun k => match k with
  | 0 => ("java/util/AbstractList", "modCount", "I", false)
  | 1 => ("java/util/ArrayList", "elementData", "[Ljava/lang/Object;", false)
  | _ => ("java/util/ArrayList", "size", "I", false)
def tyJx4a65c : Nat → FieldType := fun k => match k with
  | 0 => .int
  | 1 => .array (.object "java/lang/Object")
  | _ => .int
abbrev wsJx4a65c0 : List Cond := u_ws RJx4a65c TJx4a65c 3
theorem nmJx4a65c : ∀ a, a < 3 → ∀ b, b < 3 → a ≠ b → (TJx4a65c a).2.1 ≠ (TJx4a65c b).2.1 := by decide +kernel
theorem tyJx4a65c_ok : ∀ k, k < 3 → parseFieldDescriptor (TJx4a65c k).2.2.1 = some (tyJx4a65c k) := by decide +kernel
abbrev cJx4a65c_init_da8c8 : ByteArray := prog_23_method_2_code
def yJx4a65c_init_da8c8 : MethodName := ⟨RJx4a65c, "<init>", "()V"⟩
abbrev cJx4a65c_grow_92f84 : ByteArray := prog_23_method_6_code
def yJx4a65c_grow_92f84 : MethodName := ⟨RJx4a65c, "grow", "(I)[Ljava/lang/Object;"⟩
abbrev cJx4a65c_grow_d5877 : ByteArray := prog_23_method_7_code
def yJx4a65c_grow_d5877 : MethodName := ⟨RJx4a65c, "grow", "()[Ljava/lang/Object;"⟩
abbrev cJx4a65c_size_8abf5 : ByteArray := prog_23_method_8_code
def yJx4a65c_size_8abf5 : MethodName := ⟨RJx4a65c, "size", "()I"⟩
abbrev cJx4a65c_elementData_915e3 : ByteArray := prog_23_method_18_code
def yJx4a65c_elementData_915e3 : MethodName := ⟨RJx4a65c, "elementData", "(I)Ljava/lang/Object;"⟩
abbrev cJx4a65c_get_915e3 : ByteArray := prog_23_method_20_code
def yJx4a65c_get_915e3 : MethodName := ⟨RJx4a65c, "get", "(I)Ljava/lang/Object;"⟩
abbrev cJx4a65c_add_72be8 : ByteArray := prog_23_method_24_code
def yJx4a65c_add_72be8 : MethodName := ⟨RJx4a65c, "add", "(Ljava/lang/Object;[Ljava/lang/Object;I)V"⟩
abbrev cJx4a65c_add_9ea2d : ByteArray := prog_23_method_25_code
def yJx4a65c_add_9ea2d : MethodName := ⟨RJx4a65c, "add", "(Ljava/lang/Object;)Z"⟩
def RJ7 : String := "java/util/Arrays"
def TJ7 : u_T := fun k => match k with
  | _ => ("", "", "", false)
def tyJ7 : Nat → FieldType := fun k => match k with
  | _ => .int
abbrev wsJ70 : List Cond := u_ws RJ7 TJ7 0
theorem nmJ7 : ∀ a, a < 0 → ∀ b, b < 0 → a ≠ b → (TJ7 a).2.1 ≠ (TJ7 b).2.1 := by decide +kernel
theorem tyJ7_ok : ∀ k, k < 0 → parseFieldDescriptor (TJ7 k).2.2.1 = some (tyJ7 k) := by decide +kernel
abbrev cJ7_fill_53178 : ByteArray := prog_24_method_103_code
def yJ7_fill_53178 : MethodName := ⟨RJ7, "fill", "([II)V"⟩
abbrev cJ7_copyOf_1904c : ByteArray := prog_24_method_119_code
def yJ7_copyOf_1904c : MethodName := ⟨RJ7, "copyOf", "([Ljava/lang/Object;I)[Ljava/lang/Object;"⟩
abbrev cJ7_copyOf_6403c : ByteArray := prog_24_method_120_code
def yJ7_copyOf_6403c : MethodName := ⟨RJ7, "copyOf", "([Ljava/lang/Object;ILjava/lang/Class;)[Ljava/lang/Object;"⟩
abbrev cJ7_copyOf_59c91 : ByteArray := prog_24_method_123_code
def yJ7_copyOf_59c91 : MethodName := ⟨RJ7, "copyOf", "([II)[I"⟩
def RJx5ef63 : String := "java/util/Collection"
def TJx5ef63 : u_T := fun k => match k with
  | _ => ("", "", "", false)
def tyJx5ef63 : Nat → FieldType := fun k => match k with
  | _ => .int
abbrev wsJx5ef630 : List Cond := u_ws RJx5ef63 TJx5ef63 0
theorem nmJx5ef63 : ∀ a, a < 0 → ∀ b, b < 0 → a ≠ b → (TJx5ef63 a).2.1 ≠ (TJx5ef63 b).2.1 := by decide +kernel
theorem tyJx5ef63_ok : ∀ k, k < 0 → parseFieldDescriptor (TJx5ef63 k).2.2.1 = some (tyJx5ef63 k) := by decide +kernel
def RJxbd725 : String := "java/util/List"
def TJxbd725 : u_T := fun k => match k with
  | _ => ("", "", "", false)
def tyJxbd725 : Nat → FieldType := fun k => match k with
  | _ => .int
abbrev wsJxbd7250 : List Cond := u_ws RJxbd725 TJxbd725 0
theorem nmJxbd725 : ∀ a, a < 0 → ∀ b, b < 0 → a ≠ b → (TJxbd725 a).2.1 ≠ (TJxbd725 b).2.1 := by decide +kernel
theorem tyJxbd725_ok : ∀ k, k < 0 → parseFieldDescriptor (TJxbd725 k).2.2.1 = some (tyJxbd725 k) := by decide +kernel
def RJ15 : String := "java/util/Objects"
def TJ15 : u_T := fun k => match k with
  | _ => ("", "", "", false)
def tyJ15 : Nat → FieldType := fun k => match k with
  | _ => .int
abbrev wsJ150 : List Cond := u_ws RJ15 TJ15 0
theorem nmJ15 : ∀ a, a < 0 → ∀ b, b < 0 → a ≠ b → (TJ15 a).2.1 ≠ (TJ15 b).2.1 := by decide +kernel
theorem tyJ15_ok : ∀ k, k < 0 → parseFieldDescriptor (TJ15 k).2.2.1 = some (tyJ15 k) := by decide +kernel
abbrev cJ15_checkIndex_7cf53 : ByteArray := prog_27_method_17_code
def yJ15_checkIndex_7cf53 : MethodName := ⟨RJ15, "checkIndex", "(II)I"⟩
def RJxf0a74 : String := "java/util/RandomAccess"
def TJxf0a74 : u_T := fun k => match k with
  | _ => ("", "", "", false)
def tyJxf0a74 : Nat → FieldType := fun k => match k with
  | _ => .int
abbrev wsJxf0a740 : List Cond := u_ws RJxf0a74 TJxf0a74 0
theorem nmJxf0a74 : ∀ a, a < 0 → ∀ b, b < 0 → a ≠ b → (TJxf0a74 a).2.1 ≠ (TJxf0a74 b).2.1 := by decide +kernel
theorem tyJxf0a74_ok : ∀ k, k < 0 → parseFieldDescriptor (TJxf0a74 k).2.2.1 = some (tyJxf0a74 k) := by decide +kernel
def RJxa66e6 : String := "java/util/SequencedCollection"
def TJxa66e6 : u_T := fun k => match k with
  | _ => ("", "", "", false)
def tyJxa66e6 : Nat → FieldType := fun k => match k with
  | _ => .int
abbrev wsJxa66e60 : List Cond := u_ws RJxa66e6 TJxa66e6 0
theorem nmJxa66e6 : ∀ a, a < 0 → ∀ b, b < 0 → a ≠ b → (TJxa66e6 a).2.1 ≠ (TJxa66e6 b).2.1 := by decide +kernel
theorem tyJxa66e6_ok : ∀ k, k < 0 → parseFieldDescriptor (TJxa66e6 k).2.2.1 = some (tyJxa66e6 k) := by decide +kernel
def RJ8 : String := "jdk/internal/util/ArraysSupport"
def TJ8 : u_T := fun k => match k with
  | _ => ("", "", "", false)
def tyJ8 : Nat → FieldType := fun k => match k with
  | _ => .int
abbrev wsJ80 : List Cond := u_ws RJ8 TJ8 0
theorem nmJ8 : ∀ a, a < 0 → ∀ b, b < 0 → a ≠ b → (TJ8 a).2.1 ≠ (TJ8 b).2.1 := by decide +kernel
theorem tyJ8_ok : ∀ k, k < 0 → parseFieldDescriptor (TJ8 k).2.2.1 = some (tyJ8 k) := by decide +kernel
abbrev cJ8_newLength_cabcc : ByteArray := prog_30_method_27_code
def yJ8_newLength_cabcc : MethodName := ⟨RJ8, "newLength", "(III)I"⟩
abbrev cJ8_hugeLength_7cf53 : ByteArray := prog_30_method_28_code
def yJ8_hugeLength_7cf53 : MethodName := ⟨RJ8, "hugeLength", "(II)I"⟩
def RJ3 : String := "jdk/internal/util/Preconditions"
def TJ3 : u_T := fun k => match k with
  | _ => ("", "", "", false)
def tyJ3 : Nat → FieldType := fun k => match k with
  | _ => .int
abbrev wsJ30 : List Cond := u_ws RJ3 TJ3 0
theorem nmJ3 : ∀ a, a < 0 → ∀ b, b < 0 → a ≠ b → (TJ3 a).2.1 ≠ (TJ3 b).2.1 := by decide +kernel
theorem tyJ3_ok : ∀ k, k < 0 → parseFieldDescriptor (TJ3 k).2.2.1 = some (tyJ3 k) := by decide +kernel
abbrev cJ3_checkIndex_8e157 : ByteArray := prog_31_method_11_code
def yJ3_checkIndex_8e157 : MethodName := ⟨RJ3, "checkIndex", "(IILjava/util/function/BiFunction;)I"⟩
def RL : String := "LampRhythmsLaw"
abbrev cL_phase : ByteArray := method_3_code
def yL_phase : MethodName := ⟨RL, "phase", "(LLampRhythms;I[J)I"⟩
abbrev cL_pattern : ByteArray := method_4_code
def yL_pattern : MethodName := ⟨RL, "pattern", "(LLampRhythms;[J)I"⟩
abbrev cL_period : ByteArray := method_5_code
def yL_period : MethodName := ⟨RL, "period", "(LLampRhythms;I[J)I"⟩
abbrev cL_areAlike : ByteArray := method_6_code
def yL_areAlike : MethodName := ⟨RL, "areAlike", "(LLampRhythms;II[J)I"⟩
abbrev cL_areAlikeBySeconds : ByteArray := method_7_code
def yL_areAlikeBySeconds : MethodName := ⟨RL, "areAlikeBySeconds", "(LLampRhythms;II[J)I"⟩
abbrev cL_lamp : ByteArray := method_8_code
def yL_lamp : MethodName := ⟨RL, "lamp", "(LLampRhythms;IIIII[J)I"⟩
abbrev cL_change : ByteArray := method_9_code
def yL_change : MethodName := ⟨RL, "change", "(LLampRhythms;III[J)I"⟩
abbrev cL_fail : ByteArray := method_10_code
def yL_fail : MethodName := ⟨RL, "fail", "(LLampRhythms;IZ[J)I"⟩
abbrev cL_shines : ByteArray := method_11_code
def yL_shines : MethodName := ⟨RL, "shines", "(LLampRhythms;II[J)I"⟩
abbrev cL_sector : ByteArray := method_12_code
def yL_sector : MethodName := ⟨RL, "sector", "(LLampRhythms;III[J)I"⟩
abbrev cL_isSeen : ByteArray := method_13_code
def yL_isSeen : MethodName := ⟨RL, "isSeen", "(LLampRhythms;III[J)I"⟩
abbrev cL_common : ByteArray := method_14_code
def yL_common : MethodName := ⟨RL, "common", "(LLampRhythms;II[J)I"⟩
abbrev cL_print : ByteArray := method_15_code
def yL_print : MethodName := ⟨RL, "print", "(LLampRhythms;[J)I"⟩
abbrev cL_correct : ByteArray := method_16_code
def yL_correct : MethodName := ⟨RL, "correct", "(LLampRhythms;II[J)I"⟩
abbrev cL_behind : ByteArray := method_17_code
def yL_behind : MethodName := ⟨RL, "behind", "(LLampRhythms;I[J)I"⟩
abbrev cL_shown : ByteArray := method_18_code
def yL_shown : MethodName := ⟨RL, "shown", "(LLampRhythms;II[J)I"⟩
abbrev cL_taken : ByteArray := method_19_code
def yL_taken : MethodName := ⟨RL, "taken", "(LLampRhythms;IIIIII[J)I"⟩
abbrev cL_law : ByteArray := code
def yL_law : MethodName := ⟨RL, "law", "([I)Z"⟩
abbrev vwCl : List vw_C := [(RJx4a65c, TJx4a65c, 3), (RX0, TX0, 2), (RX1, TX1, 6), (RX2, TX2, 2), (RX3, TX3, 4), (RX4, TX4, 6), (RX5, TX5, 20)]
def wa_0 : List Cond := [Cond.classLink RL 8 RX4, Cond.instantiable RX4 6, Cond.initialized RX4, Cond.classLink RL 76 RX5, Cond.instantiable RX5 20, Cond.initialized RX5, Cond.arrayClass .long, Cond.methodLink RL 75 yX4_init, Cond.instanceMethod yX4_init, Cond.code yX4_init cX4_init 1 none, Cond.methodLink RX4 1 objectInit, Cond.instanceMethod objectInit, Cond.code objectInit ⟨#[0xb1]⟩ 1 none, Cond.arrayClass .int, Cond.fieldLink RX4 9 "LampRhythms" "draft" "[I", Cond.fieldLink RX4 13 "LampRhythms" "drafted" "I", Cond.classLink RX4 17 RJx4a65c, Cond.instantiable RJx4a65c 3, Cond.initialized RJx4a65c, Cond.fieldLink RX4 20 "LampRhythms" "patterns" "Ljava/util/ArrayList;", Cond.fieldLink RX4 24 "LampRhythms" "lamps" "Ljava/util/ArrayList;", Cond.fieldLink RX4 27 "LampRhythms" "told" "Ljava/util/ArrayList;", Cond.fieldLink RX4 30 "LampRhythms" "charts" "Ljava/util/ArrayList;", Cond.methodLink RX4 19 yJx4a65c_init_da8c8, Cond.instanceMethod yJx4a65c_init_da8c8]
def wa_1 : List Cond := [Cond.code yJx4a65c_init_da8c8 cJx4a65c_init_da8c8 1 none, Cond.fieldLink RJx4a65c 39 "java/util/ArrayList" "DEFAULTCAPACITY_EMPTY_ELEMENTDATA" "[Ljava/lang/Object;", Cond.fieldLink RJx4a65c 9 "java/util/ArrayList" "elementData" "[Ljava/lang/Object;", Cond.methodLink RJx4a65c 1 yJxc12de_init_da8c8, Cond.instanceMethod yJxc12de_init_da8c8, Cond.initialized RJxc12de, Cond.code yJxc12de_init_da8c8 cJxc12de_init_da8c8 1 none, Cond.fieldLink RJxc12de 7 "java/util/AbstractList" "modCount" "I", Cond.methodLink RJxc12de 1 yJxa1e45_init_da8c8, Cond.instanceMethod yJxa1e45_init_da8c8, Cond.initialized RJxa1e45, Cond.code yJxa1e45_init_da8c8 cJxa1e45_init_da8c8 1 none, Cond.methodLink RJxa1e45 1 objectInit, Cond.methodLink RL 78 yX5_init, Cond.instanceMethod yX5_init, Cond.code yX5_init cX5_init 1 none, Cond.methodLink RX5 1 objectInit, Cond.fieldLink RX5 7 "LampRhythmsModel" "draft" "[I", Cond.fieldLink RX5 13 "LampRhythmsModel" "phase" "[I", Cond.fieldLink RX5 16 "LampRhythmsModel" "phases" "[I", Cond.fieldLink RX5 19 "LampRhythmsModel" "period" "[I", Cond.fieldLink RX5 22 "LampRhythmsModel" "left" "[I", Cond.fieldLink RX5 25 "LampRhythmsModel" "up" "[I", Cond.fieldLink RX5 28 "LampRhythmsModel" "has" "[I", Cond.fieldLink RX5 31 "LampRhythmsModel" "begun" "[I"]
def wa_2 : List Cond := [Cond.fieldLink RX5 34 "LampRhythmsModel" "reach" "[I", Cond.fieldLink RX5 37 "LampRhythmsModel" "sectors" "[I", Cond.arrayClass .boolean, Cond.fieldLink RX5 40 "LampRhythmsModel" "failed" "[Z", Cond.fieldLink RX5 44 "LampRhythmsModel" "notice" "[I", Cond.fieldLink RX5 47 "LampRhythmsModel" "told" "[I", Cond.fieldLink RX5 50 "LampRhythmsModel" "shows" "[I", Cond.methodLink RL 79 yL_phase, Cond.static yL_phase, Cond.initialized RL, Cond.codeWith yL_phase cL_phase 4 (some .int) [(0, 9, 12, 13), (0, 9, 15, 15)], Cond.classLink RL 13 "java/lang/IllegalArgumentException", Cond.classLink RL 15 "java/lang/IllegalStateException", Cond.methodLink RL 7 yX4_phase, Cond.instanceMethod yX4_phase, Cond.selects RX4 yX4_phase yX4_phase, Cond.code yX4_phase cX4_phase 2 (some .int), Cond.classLink RX4 37 "java/lang/IllegalStateException", Cond.initialized "java/lang/IllegalStateException", Cond.methodLink RX4 33 yX4_requireWithin, Cond.static yX4_requireWithin, Cond.code yX4_requireWithin cX4_requireWithin 3 none, Cond.classLink RX4 183 "java/lang/IllegalArgumentException", Cond.initialized "java/lang/IllegalArgumentException", Cond.methodLink RL 84 yX5_phase]
def wa_3 : List Cond := [Cond.instanceMethod yX5_phase, Cond.selects RX5 yX5_phase yX5_phase, Cond.code yX5_phase cX5_phase 2 (some .int), Cond.fieldLink RX5 70 "LampRhythmsModel" "drafted" "I", Cond.fieldLink RX5 53 "LampRhythmsModel" "thrown" "I", Cond.methodLink RX5 60 yX5_isIn, Cond.static yX5_isIn, Cond.code yX5_isIn cX5_isIn 3 (some .boolean), Cond.methodLink RL 85 yX5_thrown, Cond.instanceMethod yX5_thrown, Cond.selects RX5 yX5_thrown yX5_thrown, Cond.code yX5_thrown cX5_thrown 1 (some .int), Cond.methodLink RL 88 yL_pattern, Cond.static yL_pattern, Cond.codeWith yL_pattern cL_pattern 3 (some .int) [(0, 8, 11, 15)], Cond.methodLink RL 17 yX4_pattern, Cond.instanceMethod yX4_pattern, Cond.selects RX4 yX4_pattern yX4_pattern, Cond.code yX4_pattern cX4_pattern 1 (some .int), Cond.classLink RX4 52 RX3, Cond.instantiable RX3 4, Cond.initialized RX3, Cond.methodLink RX4 46 yJx4a65c_size_8abf5, Cond.instanceMethod yJx4a65c_size_8abf5, Cond.selects RJx4a65c yJx4a65c_size_8abf5 yJx4a65c_size_8abf5]
def wa_4 : List Cond := [Cond.code yJx4a65c_size_8abf5 cJx4a65c_size_8abf5 1 (some .int), Cond.fieldLink RJx4a65c 48 "java/util/ArrayList" "size" "I", Cond.methodLink RX4 54 yJ7_copyOf_59c91, Cond.static yJ7_copyOf_59c91, Cond.initialized RJ7, Cond.code yJ7_copyOf_59c91 cJ7_copyOf_59c91 3 (some (.array .int)), Cond.methodLink RJ7 316 ⟨"[I", "clone", "()Ljava/lang/Object;"⟩, Cond.sameMethod "[I" "java/lang/Object" "clone" "()Ljava/lang/Object;", Cond.native ⟨"java/lang/Object", "clone", "()Ljava/lang/Object;"⟩, Cond.instanceMethod ⟨"java/lang/Object", "clone", "()Ljava/lang/Object;"⟩, Cond.selects "[I" ⟨"[I", "clone", "()Ljava/lang/Object;"⟩ ⟨"java/lang/Object", "clone", "()Ljava/lang/Object;"⟩, Cond.classLink RJ7 317 "[I", Cond.methodLink RJ7 304 Lib.Math.min.name, Cond.static Lib.Math.min.name, Cond.initialized "java/lang/Math", Cond.code Lib.Math.min.name Lib.Math.min.code 2 (some .int), Cond.methodLink RJ7 150 arraycopyName, Cond.native arraycopyName, Cond.static arraycopyName, Cond.initialized "java/lang/System", Cond.methodLink RX4 60 yX3_init, Cond.instanceMethod yX3_init, Cond.code yX3_init cX3_init 7 none, Cond.methodLink RX3 1 objectInit, Cond.fieldLink RX3 7 "LampRhythms$Pattern" "phases" "[I"]
def wa_5 : List Cond := [Cond.fieldLink RX3 13 "LampRhythms$Pattern" "period" "I", Cond.fieldLink RX3 17 "LampRhythms$Pattern" "light" "J", Cond.fieldLink RX3 25 "LampRhythms$Pattern" "cycle" "I", Cond.methodLink RX3 21 yX3_cycleOf, Cond.static yX3_cycleOf, Cond.code yX3_cycleOf cX3_cycleOf 2 (some .int), Cond.methodLink RX3 28 yX3_repeatsAfter, Cond.static yX3_repeatsAfter, Cond.code yX3_repeatsAfter cX3_repeatsAfter 3 (some .boolean), Cond.methodLink RX4 63 yJx4a65c_add_9ea2d, Cond.instanceMethod yJx4a65c_add_9ea2d, Cond.selects RJx4a65c yJx4a65c_add_9ea2d yJx4a65c_add_9ea2d, Cond.code yJx4a65c_add_9ea2d cJx4a65c_add_9ea2d 2 (some .boolean), Cond.fieldLink RJx4a65c 63 "java/util/ArrayList" "modCount" "I", Cond.sameField "java/util/ArrayList" "java/util/AbstractList" "modCount" "I", Cond.methodLink RJx4a65c 131 yJx4a65c_add_72be8, Cond.instanceMethod yJx4a65c_add_72be8, Cond.selects RJx4a65c yJx4a65c_add_72be8 yJx4a65c_add_72be8, Cond.code yJx4a65c_add_72be8 cJx4a65c_add_72be8 4 none, Cond.methodLink RJx4a65c 129 yJx4a65c_grow_d5877, Cond.instanceMethod yJx4a65c_grow_d5877, Cond.selects RJx4a65c yJx4a65c_grow_d5877 yJx4a65c_grow_d5877, Cond.code yJx4a65c_grow_d5877 cJx4a65c_grow_d5877 1 (some (.array (.object "java/lang/Object"))), Cond.methodLink RJx4a65c 69 yJx4a65c_grow_92f84, Cond.instanceMethod yJx4a65c_grow_92f84]
def wa_6 : List Cond := [Cond.selects RJx4a65c yJx4a65c_grow_92f84 yJx4a65c_grow_92f84, Cond.code yJx4a65c_grow_92f84 cJx4a65c_grow_92f84 4 (some (.array (.object "java/lang/Object"))), Cond.methodLink RJx4a65c 79 Lib.Math.max.name, Cond.static Lib.Math.max.name, Cond.code Lib.Math.max.name Lib.Math.max.code 2 (some .int), Cond.classLink RJx4a65c 7 "java/lang/Object", Cond.methodLink RJx4a65c 73 yJ8_newLength_cabcc, Cond.static yJ8_newLength_cabcc, Cond.initialized RJ8, Cond.code yJ8_newLength_cabcc cJ8_newLength_cabcc 4 (some .int), Cond.methodLink RJ8 194 Lib.Math.max.name, Cond.constant RJ8 200 (2147483639), Cond.methodLink RJ8 201 yJ8_hugeLength_7cf53, Cond.static yJ8_hugeLength_7cf53, Cond.code yJ8_hugeLength_7cf53 cJ8_hugeLength_7cf53 3 (some .int), Cond.methodLink RJx4a65c 66 yJ7_copyOf_1904c, Cond.static yJ7_copyOf_1904c, Cond.code yJ7_copyOf_1904c cJ7_copyOf_1904c 2 (some (.array (.object "java/lang/Object"))), Cond.methodLink RJ7 86 ⟨"java/lang/Object", "getClass", "()Ljava/lang/Class;"⟩, Cond.selects "[Ljava/lang/Object;" ⟨"java/lang/Object", "getClass", "()Ljava/lang/Class;"⟩ ⟨"java/lang/Object", "getClass", "()Ljava/lang/Class;"⟩, Cond.instanceMethod ⟨"java/lang/Object", "getClass", "()Ljava/lang/Class;"⟩, Cond.native ⟨"java/lang/Object", "getClass", "()Ljava/lang/Class;"⟩, Cond.methodLink RJ7 300 yJ7_copyOf_6403c, Cond.static yJ7_copyOf_6403c, Cond.code yJ7_copyOf_6403c cJ7_copyOf_6403c 4 (some (.array (.object "java/lang/Object")))]
def wa_7 : List Cond := [Cond.classLink RJ7 110 "[Ljava/lang/Object;", Cond.classLink RJ7 2 "java/lang/Object", Cond.methodLink RL 91 yX5_pattern, Cond.instanceMethod yX5_pattern, Cond.selects RX5 yX5_pattern yX5_pattern, Cond.code yX5_pattern cX5_pattern 3 (some .int), Cond.fieldLink RX5 57 "LampRhythmsModel" "patterns" "I", Cond.methodLink RL 92 yL_period, Cond.static yL_period, Cond.codeWith yL_period cL_period 4 (some .int) [(0, 9, 12, 24)], Cond.classLink RL 24 "java/lang/IndexOutOfBoundsException", Cond.methodLink RL 21 yX4_period, Cond.instanceMethod yX4_period, Cond.selects RX4 yX4_period yX4_period, Cond.code yX4_period cX4_period 2 (some .int), Cond.fieldLink RX4 71 "LampRhythms$Pattern" "period" "I", Cond.methodLink RX4 67 yX4_patternAt, Cond.instanceMethod yX4_patternAt, Cond.selects RX4 yX4_patternAt yX4_patternAt, Cond.code yX4_patternAt cX4_patternAt 2 (some (.object "LampRhythms$Pattern")), Cond.classLink RX4 52 "LampRhythms$Pattern", Cond.methodLink RX4 81 yX4_requirePattern, Cond.instanceMethod yX4_requirePattern, Cond.selects RX4 yX4_requirePattern yX4_requirePattern, Cond.code yX4_requirePattern cX4_requirePattern 2 none]
def wa_8 : List Cond := [Cond.classLink RX4 188 "java/lang/IndexOutOfBoundsException", Cond.initialized "java/lang/IndexOutOfBoundsException", Cond.methodLink RX4 139 yJx4a65c_get_915e3, Cond.instanceMethod yJx4a65c_get_915e3, Cond.selects RJx4a65c yJx4a65c_get_915e3 yJx4a65c_get_915e3, Cond.code yJx4a65c_get_915e3 cJx4a65c_get_915e3 2 (some (.object "java/lang/Object")), Cond.methodLink RJx4a65c 118 yJ15_checkIndex_7cf53, Cond.static yJ15_checkIndex_7cf53, Cond.initialized RJ15, Cond.code yJ15_checkIndex_7cf53 cJ15_checkIndex_7cf53 2 (some .int), Cond.methodLink RJ15 105 yJ3_checkIndex_8e157, Cond.static yJ3_checkIndex_8e157, Cond.initialized RJ3, Cond.code yJ3_checkIndex_8e157 cJ3_checkIndex_8e157 3 (some .int), Cond.methodLink RJx4a65c 123 yJx4a65c_elementData_915e3, Cond.instanceMethod yJx4a65c_elementData_915e3, Cond.selects RJx4a65c yJx4a65c_elementData_915e3 yJx4a65c_elementData_915e3, Cond.code yJx4a65c_elementData_915e3 cJx4a65c_elementData_915e3 2 (some (.object "java/lang/Object")), Cond.methodLink RL 94 yX5_period, Cond.instanceMethod yX5_period, Cond.selects RX5 yX5_period yX5_period, Cond.code yX5_period cX5_period 2 (some .int), Cond.methodLink RX5 73 yX5_isPattern, Cond.instanceMethod yX5_isPattern, Cond.selects RX5 yX5_isPattern yX5_isPattern]
def wa_9 : List Cond := [Cond.code yX5_isPattern cX5_isPattern 2 (some .boolean), Cond.methodLink RL 95 yL_areAlike, Cond.static yL_areAlike, Cond.codeWith yL_areAlike cL_areAlike 5 (some .int) [(0, 17, 20, 24)], Cond.methodLink RL 26 yX4_areAlike, Cond.instanceMethod yX4_areAlike, Cond.selects RX4 yX4_areAlike yX4_areAlike, Cond.code yX4_areAlike cX4_areAlike 3 (some .boolean), Cond.methodLink RX4 74 yX3_hasPhasesOf, Cond.instanceMethod yX3_hasPhasesOf, Cond.selects RX3 yX3_hasPhasesOf yX3_hasPhasesOf, Cond.code yX3_hasPhasesOf cX3_hasPhasesOf 3 (some .boolean), Cond.methodLink RX3 32 yX3_hasPhasesTurned, Cond.instanceMethod yX3_hasPhasesTurned, Cond.selects RX3 yX3_hasPhasesTurned yX3_hasPhasesTurned, Cond.code yX3_hasPhasesTurned cX3_hasPhasesTurned 5 (some .boolean), Cond.methodLink RL 98 yX5_areAlike, Cond.instanceMethod yX5_areAlike, Cond.selects RX5 yX5_areAlike yX5_areAlike, Cond.code yX5_areAlike cX5_areAlike 3 (some .boolean), Cond.methodLink RX5 88 yX5_asksAlike, Cond.instanceMethod yX5_asksAlike, Cond.selects RX5 yX5_asksAlike yX5_asksAlike, Cond.code yX5_asksAlike cX5_asksAlike 3 (some .boolean), Cond.methodLink RX5 85 yX5_alike]
def wa_10 : List Cond := [Cond.instanceMethod yX5_alike, Cond.selects RX5 yX5_alike yX5_alike, Cond.code yX5_alike cX5_alike 8 (some .boolean), Cond.methodLink RX5 81 yX5_returns, Cond.instanceMethod yX5_returns, Cond.selects RX5 yX5_returns yX5_returns, Cond.code yX5_returns cX5_returns 6 (some .int), Cond.methodLink RX5 77 yX5_isLight, Cond.instanceMethod yX5_isLight, Cond.selects RX5 yX5_isLight yX5_isLight, Cond.code yX5_isLight cX5_isLight 5 (some .boolean), Cond.methodLink RL 99 yL_areAlikeBySeconds, Cond.static yL_areAlikeBySeconds, Cond.codeWith yL_areAlikeBySeconds cL_areAlikeBySeconds 5 (some .int) [(0, 17, 20, 24)], Cond.methodLink RL 30 yX4_areAlikeBySeconds, Cond.instanceMethod yX4_areAlikeBySeconds, Cond.selects RX4 yX4_areAlikeBySeconds yX4_areAlikeBySeconds, Cond.code yX4_areAlikeBySeconds cX4_areAlikeBySeconds 3 (some .boolean), Cond.methodLink RX4 78 yX3_hasSecondsOf, Cond.instanceMethod yX3_hasSecondsOf, Cond.selects RX3 yX3_hasSecondsOf yX3_hasSecondsOf, Cond.code yX3_hasSecondsOf cX3_hasSecondsOf 3 (some .boolean), Cond.methodLink RX3 36 yX3_hasSecondsLater, Cond.instanceMethod yX3_hasSecondsLater, Cond.selects RX3 yX3_hasSecondsLater yX3_hasSecondsLater]
def wa_11 : List Cond := [Cond.code yX3_hasSecondsLater cX3_hasSecondsLater 5 (some .boolean), Cond.methodLink RX3 39 yX3_isLight, Cond.instanceMethod yX3_isLight, Cond.selects RX3 yX3_isLight yX3_isLight, Cond.code yX3_isLight cX3_isLight 2 (some .boolean), Cond.methodLink RL 101 yX5_areAlikeBySeconds, Cond.instanceMethod yX5_areAlikeBySeconds, Cond.selects RX5 yX5_areAlikeBySeconds yX5_areAlikeBySeconds, Cond.code yX5_areAlikeBySeconds cX5_areAlikeBySeconds 3 (some .boolean), Cond.methodLink RL 102 yL_lamp, Cond.static yL_lamp, Cond.codeWith yL_lamp cL_lamp 8 (some .int) [(0, 16, 19, 24), (0, 16, 23, 13), (0, 16, 27, 15)], Cond.methodLink RL 33 yX4_lamp, Cond.instanceMethod yX4_lamp, Cond.selects RX4 yX4_lamp yX4_lamp, Cond.code yX4_lamp cX4_lamp 7 (some .int), Cond.classLink RX4 91 RX1, Cond.instantiable RX1 6, Cond.initialized RX1, Cond.methodLink RX4 85 yX4_requirePlace, Cond.static yX4_requirePlace, Cond.code yX4_requirePlace cX4_requirePlace 2 none, Cond.methodLink RX4 93 yX1_init, Cond.instanceMethod yX1_init, Cond.code yX1_init cX1_init 9 none]
def wa_12 : List Cond := [Cond.methodLink RX1 3 objectInit, Cond.fieldLink RX1 9 "LampRhythms$Lamp" "begins" "I", Cond.fieldLink RX1 15 "LampRhythms$Lamp" "failed" "Z", Cond.fieldLink RX1 23 "LampRhythms$Lamp" "x" "I", Cond.fieldLink RX1 26 "LampRhythms$Lamp" "y" "I", Cond.fieldLink RX1 29 "LampRhythms$Lamp" "sight" "[I", Cond.fieldLink RX1 33 "LampRhythms$Lamp" "pattern" "I", Cond.methodLink RX1 19 yX1_isWithin, Cond.static yX1_isWithin, Cond.code yX1_isWithin cX1_isWithin 5 (some .boolean), Cond.methodLink RX1 36 Lib.Math.abs.name, Cond.static Lib.Math.abs.name, Cond.code Lib.Math.abs.name Lib.Math.abs.code 1 (some .int), Cond.methodLink RX1 42 yX1_sectorOf, Cond.static yX1_sectorOf, Cond.code yX1_sectorOf cX1_sectorOf 5 (some .int), Cond.methodLink RX1 46 yX1_quarterOf, Cond.static yX1_quarterOf, Cond.code yX1_quarterOf cX1_quarterOf 2 (some .int), Cond.methodLink RX4 96 yX4_tell, Cond.instanceMethod yX4_tell, Cond.selects RX4 yX4_tell yX4_tell, Cond.code yX4_tell cX4_tell 3 (some .int), Cond.classLink RX4 201 RX2, Cond.instantiable RX2 2]
def wa_13 : List Cond := [Cond.initialized RX2, Cond.fieldLink RX4 110 "LampRhythms$Lamp" "failed" "Z", Cond.fieldLink RX4 104 "LampRhythms$Lamp" "pattern" "I", Cond.methodLink RX4 100 yX4_lampAt, Cond.instanceMethod yX4_lampAt, Cond.selects RX4 yX4_lampAt yX4_lampAt, Cond.code yX4_lampAt cX4_lampAt 2 (some (.object "LampRhythms$Lamp")), Cond.classLink RX4 91 "LampRhythms$Lamp", Cond.methodLink RX4 169 yX4_requireLamp, Cond.instanceMethod yX4_requireLamp, Cond.selects RX4 yX4_requireLamp yX4_requireLamp, Cond.code yX4_requireLamp cX4_requireLamp 2 none, Cond.methodLink RX4 203 yX2_init, Cond.instanceMethod yX2_init, Cond.code yX2_init cX2_init 3 none, Cond.methodLink RX2 1 objectInit, Cond.fieldLink RX2 7 "LampRhythms$Notice" "lamp" "I", Cond.fieldLink RX2 13 "LampRhythms$Notice" "pattern" "I", Cond.methodLink RL 105 yX5_lamp, Cond.instanceMethod yX5_lamp, Cond.selects RX5 yX5_lamp yX5_lamp, Cond.code yX5_lamp cX5_lamp 7 (some .int), Cond.fieldLink RX5 64 "LampRhythmsModel" "lamps" "I", Cond.methodLink RX5 94 yX5_isPlace, Cond.static yX5_isPlace]
def wa_14 : List Cond := [Cond.code yX5_isPlace cX5_isPlace 2 (some .boolean), Cond.methodLink RX5 97 yX5_tells, Cond.instanceMethod yX5_tells, Cond.selects RX5 yX5_tells yX5_tells, Cond.code yX5_tells cX5_tells 2 (some .int), Cond.fieldLink RX5 91 "LampRhythmsModel" "notices" "I", Cond.methodLink RL 106 yL_change, Cond.static yL_change, Cond.codeWith yL_change cL_change 6 (some .int) [(0, 12, 15, 24), (0, 12, 19, 13)], Cond.methodLink RL 37 yX4_change, Cond.instanceMethod yX4_change, Cond.selects RX4 yX4_change yX4_change, Cond.code yX4_change cX4_change 5 (some .int), Cond.fieldLink RX4 107 "LampRhythms$Lamp" "begins" "I", Cond.methodLink RL 109 yX5_change, Cond.instanceMethod yX5_change, Cond.selects RX5 yX5_change yX5_change, Cond.code yX5_change cX5_change 4 (some .int), Cond.methodLink RX5 100 yX5_isLamp, Cond.instanceMethod yX5_isLamp, Cond.selects RX5 yX5_isLamp yX5_isLamp, Cond.code yX5_isLamp cX5_isLamp 2 (some .boolean), Cond.methodLink RL 110 yL_fail, Cond.static yL_fail, Cond.codeWith yL_fail cL_fail 5 (some .int) [(0, 10, 13, 24), (0, 10, 17, 15)]]
def wa_15 : List Cond := [Cond.methodLink RL 41 yX4_fail, Cond.instanceMethod yX4_fail, Cond.selects RX4 yX4_fail yX4_fail, Cond.code yX4_fail cX4_fail 4 (some .int), Cond.methodLink RL 113 yX5_fail, Cond.instanceMethod yX5_fail, Cond.selects RX5 yX5_fail yX5_fail, Cond.code yX5_fail cX5_fail 3 (some .int), Cond.methodLink RL 114 yL_shines, Cond.static yL_shines, Cond.codeWith yL_shines cL_shines 5 (some .int) [(0, 17, 20, 24), (0, 17, 24, 13)], Cond.methodLink RL 45 yX4_shines, Cond.instanceMethod yX4_shines, Cond.selects RX4 yX4_shines yX4_shines, Cond.code yX4_shines cX4_shines 4 (some .boolean), Cond.constant RX4 116 (100000), Cond.methodLink RX4 117 yX4_isLit, Cond.instanceMethod yX4_isLit, Cond.selects RX4 yX4_isLit yX4_isLit, Cond.code yX4_isLit cX4_isLit 3 (some .boolean), Cond.methodLink RX4 197 yX3_isLight, Cond.methodLink RL 116 yX5_shines, Cond.instanceMethod yX5_shines, Cond.selects RX5 yX5_shines yX5_shines, Cond.code yX5_shines cX5_shines 3 (some .boolean)]
def wa_16 : List Cond := [Cond.constant RX5 103 (100000), Cond.methodLink RX5 104 yX5_isOn, Cond.instanceMethod yX5_isOn, Cond.selects RX5 yX5_isOn yX5_isOn, Cond.code yX5_isOn cX5_isOn 3 (some .boolean), Cond.methodLink RL 117 yL_sector, Cond.static yL_sector, Cond.codeWith yL_sector cL_sector 6 (some .int) [(0, 12, 15, 24), (0, 12, 19, 13)], Cond.methodLink RL 48 yX4_sector, Cond.instanceMethod yX4_sector, Cond.selects RX4 yX4_sector yX4_sector, Cond.code yX4_sector cX4_sector 5 (some .int), Cond.fieldLink RX4 121 "LampRhythms$Lamp" "x" "I", Cond.fieldLink RX4 124 "LampRhythms$Lamp" "y" "I", Cond.methodLink RX4 127 yX1_sectorOf, Cond.methodLink RL 119 yX5_sector, Cond.instanceMethod yX5_sector, Cond.selects RX5 yX5_sector yX5_sector, Cond.code yX5_sector cX5_sector 4 (some .int), Cond.methodLink RX5 111 yX5_asks, Cond.instanceMethod yX5_asks, Cond.selects RX5 yX5_asks yX5_asks, Cond.code yX5_asks cX5_asks 4 (some .boolean), Cond.methodLink RX5 107 yX5_sectorOf, Cond.instanceMethod yX5_sectorOf]
def wa_17 : List Cond := [Cond.selects RX5 yX5_sectorOf yX5_sectorOf, Cond.code yX5_sectorOf cX5_sectorOf 10 (some .int), Cond.methodLink RL 120 yL_isSeen, Cond.static yL_isSeen, Cond.codeWith yL_isSeen cL_isSeen 6 (some .int) [(0, 19, 22, 24), (0, 19, 26, 13)], Cond.methodLink RL 51 yX4_isSeen, Cond.instanceMethod yX4_isSeen, Cond.selects RX4 yX4_isSeen yX4_isSeen, Cond.code yX4_isSeen cX4_isSeen 5 (some .boolean), Cond.methodLink RX4 131 yX1_canBeSeenFrom, Cond.instanceMethod yX1_canBeSeenFrom, Cond.selects RX1 yX1_canBeSeenFrom yX1_canBeSeenFrom, Cond.code yX1_canBeSeenFrom cX1_canBeSeenFrom 3 (some .boolean), Cond.methodLink RL 122 yX5_isSeen, Cond.instanceMethod yX5_isSeen, Cond.selects RX5 yX5_isSeen yX5_isSeen, Cond.code yX5_isSeen cX5_isSeen 4 (some .boolean), Cond.methodLink RX5 114 yX5_sees, Cond.instanceMethod yX5_sees, Cond.selects RX5 yX5_sees yX5_sees, Cond.code yX5_sees cX5_sees 8 (some .boolean), Cond.methodLink RL 123 yL_common, Cond.static yL_common, Cond.codeWith yL_common cL_common 5 (some .int) [(0, 10, 13, 24)], Cond.methodLink RL 55 yX4_common]
def wa_18 : List Cond := [Cond.instanceMethod yX4_common, Cond.selects RX4 yX4_common yX4_common, Cond.code yX4_common cX4_common 3 (some .int), Cond.methodLink RX4 135 yX1_placesSharedWith, Cond.instanceMethod yX1_placesSharedWith, Cond.selects RX1 yX1_placesSharedWith yX1_placesSharedWith, Cond.code yX1_placesSharedWith cX1_placesSharedWith 4 (some .int), Cond.methodLink RX1 49 yJ6_bitCount_0f7a4, Cond.static yJ6_bitCount_0f7a4, Cond.initialized RJ6, Cond.code yJ6_bitCount_0f7a4 cJ6_bitCount_0f7a4 1 (some .int), Cond.constant RJ6 265 (1431655765), Cond.constant RJ6 266 (858993459), Cond.constant RJ6 267 (252645135), Cond.methodLink RL 125 yX5_common, Cond.instanceMethod yX5_common, Cond.selects RX5 yX5_common yX5_common, Cond.code yX5_common cX5_common 3 (some .int), Cond.methodLink RX5 117 yX5_both, Cond.instanceMethod yX5_both, Cond.selects RX5 yX5_both yX5_both, Cond.code yX5_both cX5_both 5 (some .int), Cond.methodLink RL 126 yX4_clashes, Cond.instanceMethod yX4_clashes, Cond.selects RX4 yX4_clashes yX4_clashes]
def wa_19 : List Cond := [Cond.code yX4_clashes cX4_clashes 4 (some .int), Cond.methodLink RX4 143 yX4_clash, Cond.instanceMethod yX4_clash, Cond.selects RX4 yX4_clash yX4_clash, Cond.code yX4_clash cX4_clash 3 (some .boolean), Cond.methodLink RL 129 yX5_clashes, Cond.instanceMethod yX5_clashes, Cond.selects RX5 yX5_clashes yX5_clashes, Cond.code yX5_clashes cX5_clashes 4 (some .int), Cond.methodLink RL 130 yX4_notices, Cond.instanceMethod yX4_notices, Cond.selects RX4 yX4_notices yX4_notices, Cond.code yX4_notices cX4_notices 1 (some .int), Cond.methodLink RL 133 yX5_notices, Cond.instanceMethod yX5_notices, Cond.selects RX5 yX5_notices yX5_notices, Cond.code yX5_notices cX5_notices 1 (some .int), Cond.methodLink RL 134 yL_print, Cond.static yL_print, Cond.codeWith yL_print cL_print 3 (some .int) [(0, 8, 11, 15)], Cond.methodLink RL 59 yX4_print, Cond.instanceMethod yX4_print, Cond.selects RX4 yX4_print yX4_print, Cond.code yX4_print cX4_print 2 (some .int), Cond.classLink RX4 149 RX0]
def wa_20 : List Cond := [Cond.instantiable RX0 2, Cond.initialized RX0, Cond.methodLink RX4 151 yX0_init, Cond.instanceMethod yX0_init, Cond.code yX0_init cX0_init 1 none, Cond.methodLink RX0 3 objectInit, Cond.fieldLink RX0 9 "LampRhythms$Chart" "patterns" "[I", Cond.fieldLink RX0 15 "LampRhythms$Chart" "notices" "I", Cond.methodLink RX0 19 yJ7_fill_53178, Cond.static yJ7_fill_53178, Cond.code yJ7_fill_53178 cJ7_fill_53178 4 none, Cond.methodLink RX4 152 yX4_putIn, Cond.instanceMethod yX4_putIn, Cond.selects RX4 yX4_putIn yX4_putIn, Cond.code yX4_putIn cX4_putIn 5 none, Cond.fieldLink RX4 205 "LampRhythms$Chart" "notices" "I", Cond.methodLink RX4 164 Lib.Math.min.name, Cond.classLink RX4 201 "LampRhythms$Notice", Cond.methodLink RX4 208 yX0_putIn, Cond.instanceMethod yX0_putIn, Cond.selects RX0 yX0_putIn yX0_putIn, Cond.code yX0_putIn cX0_putIn 2 none, Cond.fieldLink RX0 25 "LampRhythms$Notice" "lamp" "I", Cond.fieldLink RX0 30 "LampRhythms$Notice" "pattern" "I", Cond.methodLink RL 136 yX5_print]
def wa_21 : List Cond := [Cond.instanceMethod yX5_print, Cond.selects RX5 yX5_print yX5_print, Cond.code yX5_print cX5_print 2 (some .int), Cond.fieldLink RX5 67 "LampRhythmsModel" "charts" "I", Cond.methodLink RX5 121 yX5_puts, Cond.instanceMethod yX5_puts, Cond.selects RX5 yX5_puts yX5_puts, Cond.code yX5_puts cX5_puts 5 (some .int), Cond.methodLink RL 137 yL_correct, Cond.static yL_correct, Cond.codeWith yL_correct cL_correct 5 (some .int) [(0, 10, 13, 24), (0, 10, 17, 13)], Cond.methodLink RL 62 yX4_correct, Cond.instanceMethod yX4_correct, Cond.selects RX4 yX4_correct yX4_correct, Cond.code yX4_correct cX4_correct 5 (some .int), Cond.methodLink RX4 156 yX4_chartAt, Cond.instanceMethod yX4_chartAt, Cond.selects RX4 yX4_chartAt yX4_chartAt, Cond.code yX4_chartAt cX4_chartAt 2 (some (.object "LampRhythms$Chart")), Cond.classLink RX4 149 "LampRhythms$Chart", Cond.methodLink RX4 160 yX4_lackOf, Cond.instanceMethod yX4_lackOf, Cond.selects RX4 yX4_lackOf yX4_lackOf, Cond.code yX4_lackOf cX4_lackOf 2 (some .int), Cond.methodLink RL 139 yX5_correct]
def wa_22 : List Cond := [Cond.instanceMethod yX5_correct, Cond.selects RX5 yX5_correct yX5_correct, Cond.code yX5_correct cX5_correct 3 (some .int), Cond.methodLink RX5 124 yX5_isChart, Cond.instanceMethod yX5_isChart, Cond.selects RX5 yX5_isChart yX5_isChart, Cond.code yX5_isChart cX5_isChart 2 (some .boolean), Cond.methodLink RL 140 yL_behind, Cond.static yL_behind, Cond.codeWith yL_behind cL_behind 4 (some .int) [(0, 9, 12, 24)], Cond.methodLink RL 65 yX4_behind, Cond.instanceMethod yX4_behind, Cond.selects RX4 yX4_behind yX4_behind, Cond.code yX4_behind cX4_behind 2 (some .int), Cond.methodLink RL 142 yX5_behind, Cond.instanceMethod yX5_behind, Cond.selects RX5 yX5_behind yX5_behind, Cond.code yX5_behind cX5_behind 2 (some .int), Cond.methodLink RL 143 yL_shown, Cond.static yL_shown, Cond.codeWith yL_shown cL_shown 5 (some .int) [(0, 10, 13, 24)], Cond.methodLink RL 68 yX4_shown, Cond.instanceMethod yX4_shown, Cond.selects RX4 yX4_shown yX4_shown, Cond.code yX4_shown cX4_shown 4 (some .int)]
def wa_23 : List Cond := [Cond.methodLink RX4 172 yX0_patternOf, Cond.instanceMethod yX0_patternOf, Cond.selects RX0 yX0_patternOf yX0_patternOf, Cond.code yX0_patternOf cX0_patternOf 2 (some .int), Cond.methodLink RL 145 yX5_shown, Cond.instanceMethod yX5_shown, Cond.selects RX5 yX5_shown yX5_shown, Cond.code yX5_shown cX5_shown 3 (some .int), Cond.methodLink RL 146 yL_taken, Cond.static yL_taken, Cond.codeWith yL_taken cL_taken 9 (some .int) [(0, 18, 21, 24), (0, 18, 25, 13)], Cond.methodLink RL 71 yX4_taken, Cond.instanceMethod yX4_taken, Cond.selects RX4 yX4_taken yX4_taken, Cond.code yX4_taken cX4_taken 14 (some .int), Cond.methodLink RX4 175 yX4_lookAt, Cond.instanceMethod yX4_lookAt, Cond.selects RX4 yX4_lookAt yX4_lookAt, Cond.code yX4_lookAt cX4_lookAt 7 (some .long), Cond.methodLink RX4 179 yX3_canLookLike, Cond.instanceMethod yX3_canLookLike, Cond.selects RX3 yX3_canLookLike yX3_canLookLike, Cond.code yX3_canLookLike cX3_canLookLike 5 (some .boolean), Cond.methodLink RX3 43 yX3_looksLike, Cond.instanceMethod yX3_looksLike]
def wa_24 : List Cond := [Cond.selects RX3 yX3_looksLike yX3_looksLike, Cond.code yX3_looksLike cX3_looksLike 7 (some .boolean), Cond.methodLink RL 149 yX5_taken, Cond.instanceMethod yX5_taken, Cond.selects RX5 yX5_taken yX5_taken, Cond.code yX5_taken cX5_taken 12 (some .int), Cond.methodLink RX5 127 yX5_could, Cond.instanceMethod yX5_could, Cond.selects RX5 yX5_could yX5_could, Cond.code yX5_could cX5_could 9 (some .boolean)]
/-- every word that a method may ask of the tables -/
def WALL : List Cond := wa_0 ++ (wa_1 ++ (wa_2 ++ (wa_3 ++ (wa_4 ++ (wa_5 ++ (wa_6 ++ (wa_7 ++ (wa_8 ++ (wa_9 ++ (wa_10 ++ (wa_11 ++ (wa_12 ++ (wa_13 ++ (wa_14 ++ (wa_15 ++ (wa_16 ++ (wa_17 ++ (wa_18 ++ (wa_19 ++ (wa_20 ++ (wa_21 ++ (wa_22 ++ (wa_23 ++ (wa_24 ++ (wsX40 ++ (wsX50 ++ (wsJx4a65c0 ++ (wsX30 ++ (wsX10 ++ (wsX20 ++ (wsX00 ++ (((vx_atS RX4 41 "java/lang/IllegalStateException" ["java/lang/RuntimeException", "java/lang/Exception"]).filter goodWord) ++ (((vx_atS RX4 187 "java/lang/IllegalArgumentException" ["java/lang/RuntimeException", "java/lang/Exception"]).filter goodWord) ++ (((vx_atS RX4 192 "java/lang/IndexOutOfBoundsException" ["java/lang/RuntimeException", "java/lang/Exception"]).filter goodWord)))))))))))))))))))))))))))))))))))
theorem wi_0 : ∀ w ∈ wa_0, w ∈ WALL := fun _ h => List.mem_append_left _ (h)
theorem m_0_0 : Cond.classLink RL 8 RX4 ∈ WALL := wi_0 _ (List.mem_of_getElem? (i := 0) rfl)
theorem m_0_1 : Cond.instantiable RX4 6 ∈ WALL := wi_0 _ (List.mem_of_getElem? (i := 1) rfl)
theorem m_0_2 : Cond.initialized RX4 ∈ WALL := wi_0 _ (List.mem_of_getElem? (i := 2) rfl)
theorem m_0_3 : Cond.classLink RL 76 RX5 ∈ WALL := wi_0 _ (List.mem_of_getElem? (i := 3) rfl)
theorem m_0_4 : Cond.instantiable RX5 20 ∈ WALL := wi_0 _ (List.mem_of_getElem? (i := 4) rfl)
theorem m_0_5 : Cond.initialized RX5 ∈ WALL := wi_0 _ (List.mem_of_getElem? (i := 5) rfl)
theorem m_0_6 : Cond.arrayClass .long ∈ WALL := wi_0 _ (List.mem_of_getElem? (i := 6) rfl)
theorem m_0_7 : Cond.methodLink RL 75 yX4_init ∈ WALL := wi_0 _ (List.mem_of_getElem? (i := 7) rfl)
theorem m_0_8 : Cond.instanceMethod yX4_init ∈ WALL := wi_0 _ (List.mem_of_getElem? (i := 8) rfl)
theorem m_0_9 : Cond.code yX4_init cX4_init 1 none ∈ WALL := wi_0 _ (List.mem_of_getElem? (i := 9) rfl)
theorem m_0_10 : Cond.methodLink RX4 1 objectInit ∈ WALL := wi_0 _ (List.mem_of_getElem? (i := 10) rfl)
theorem m_0_11 : Cond.instanceMethod objectInit ∈ WALL := wi_0 _ (List.mem_of_getElem? (i := 11) rfl)
theorem m_0_12 : Cond.code objectInit ⟨#[0xb1]⟩ 1 none ∈ WALL := wi_0 _ (List.mem_of_getElem? (i := 12) rfl)
theorem m_0_13 : Cond.arrayClass .int ∈ WALL := wi_0 _ (List.mem_of_getElem? (i := 13) rfl)
theorem m_0_14 : Cond.fieldLink RX4 9 "LampRhythms" "draft" "[I" ∈ WALL := wi_0 _ (List.mem_of_getElem? (i := 14) rfl)
theorem m_0_15 : Cond.fieldLink RX4 13 "LampRhythms" "drafted" "I" ∈ WALL := wi_0 _ (List.mem_of_getElem? (i := 15) rfl)
theorem m_0_16 : Cond.classLink RX4 17 RJx4a65c ∈ WALL := wi_0 _ (List.mem_of_getElem? (i := 16) rfl)
theorem m_0_17 : Cond.instantiable RJx4a65c 3 ∈ WALL := wi_0 _ (List.mem_of_getElem? (i := 17) rfl)
theorem m_0_18 : Cond.initialized RJx4a65c ∈ WALL := wi_0 _ (List.mem_of_getElem? (i := 18) rfl)
theorem m_0_19 : Cond.fieldLink RX4 20 "LampRhythms" "patterns" "Ljava/util/ArrayList;" ∈ WALL := wi_0 _ (List.mem_of_getElem? (i := 19) rfl)
theorem m_0_20 : Cond.fieldLink RX4 24 "LampRhythms" "lamps" "Ljava/util/ArrayList;" ∈ WALL := wi_0 _ (List.mem_of_getElem? (i := 20) rfl)
theorem m_0_21 : Cond.fieldLink RX4 27 "LampRhythms" "told" "Ljava/util/ArrayList;" ∈ WALL := wi_0 _ (List.mem_of_getElem? (i := 21) rfl)
theorem m_0_22 : Cond.fieldLink RX4 30 "LampRhythms" "charts" "Ljava/util/ArrayList;" ∈ WALL := wi_0 _ (List.mem_of_getElem? (i := 22) rfl)
theorem m_0_23 : Cond.methodLink RX4 19 yJx4a65c_init_da8c8 ∈ WALL := wi_0 _ (List.mem_of_getElem? (i := 23) rfl)
theorem m_0_24 : Cond.instanceMethod yJx4a65c_init_da8c8 ∈ WALL := wi_0 _ (List.mem_of_getElem? (i := 24) rfl)
theorem wi_1 : ∀ w ∈ wa_1, w ∈ WALL := fun _ h => List.mem_append_right _ (List.mem_append_left _ (h))
theorem m_1_0 : Cond.code yJx4a65c_init_da8c8 cJx4a65c_init_da8c8 1 none ∈ WALL := wi_1 _ (List.mem_of_getElem? (i := 0) rfl)
theorem m_1_1 : Cond.fieldLink RJx4a65c 39 "java/util/ArrayList" "DEFAULTCAPACITY_EMPTY_ELEMENTDATA" "[Ljava/lang/Object;" ∈ WALL := wi_1 _ (List.mem_of_getElem? (i := 1) rfl)
theorem m_1_2 : Cond.fieldLink RJx4a65c 9 "java/util/ArrayList" "elementData" "[Ljava/lang/Object;" ∈ WALL := wi_1 _ (List.mem_of_getElem? (i := 2) rfl)
theorem m_1_3 : Cond.methodLink RJx4a65c 1 yJxc12de_init_da8c8 ∈ WALL := wi_1 _ (List.mem_of_getElem? (i := 3) rfl)
theorem m_1_4 : Cond.instanceMethod yJxc12de_init_da8c8 ∈ WALL := wi_1 _ (List.mem_of_getElem? (i := 4) rfl)
theorem m_1_5 : Cond.initialized RJxc12de ∈ WALL := wi_1 _ (List.mem_of_getElem? (i := 5) rfl)
theorem m_1_6 : Cond.code yJxc12de_init_da8c8 cJxc12de_init_da8c8 1 none ∈ WALL := wi_1 _ (List.mem_of_getElem? (i := 6) rfl)
theorem m_1_7 : Cond.fieldLink RJxc12de 7 "java/util/AbstractList" "modCount" "I" ∈ WALL := wi_1 _ (List.mem_of_getElem? (i := 7) rfl)
theorem m_1_8 : Cond.methodLink RJxc12de 1 yJxa1e45_init_da8c8 ∈ WALL := wi_1 _ (List.mem_of_getElem? (i := 8) rfl)
theorem m_1_9 : Cond.instanceMethod yJxa1e45_init_da8c8 ∈ WALL := wi_1 _ (List.mem_of_getElem? (i := 9) rfl)
theorem m_1_10 : Cond.initialized RJxa1e45 ∈ WALL := wi_1 _ (List.mem_of_getElem? (i := 10) rfl)
theorem m_1_11 : Cond.code yJxa1e45_init_da8c8 cJxa1e45_init_da8c8 1 none ∈ WALL := wi_1 _ (List.mem_of_getElem? (i := 11) rfl)
theorem m_1_12 : Cond.methodLink RJxa1e45 1 objectInit ∈ WALL := wi_1 _ (List.mem_of_getElem? (i := 12) rfl)
theorem m_1_13 : Cond.methodLink RL 78 yX5_init ∈ WALL := wi_1 _ (List.mem_of_getElem? (i := 13) rfl)
theorem m_1_14 : Cond.instanceMethod yX5_init ∈ WALL := wi_1 _ (List.mem_of_getElem? (i := 14) rfl)
theorem m_1_15 : Cond.code yX5_init cX5_init 1 none ∈ WALL := wi_1 _ (List.mem_of_getElem? (i := 15) rfl)
theorem m_1_16 : Cond.methodLink RX5 1 objectInit ∈ WALL := wi_1 _ (List.mem_of_getElem? (i := 16) rfl)
theorem m_1_17 : Cond.fieldLink RX5 7 "LampRhythmsModel" "draft" "[I" ∈ WALL := wi_1 _ (List.mem_of_getElem? (i := 17) rfl)
theorem m_1_18 : Cond.fieldLink RX5 13 "LampRhythmsModel" "phase" "[I" ∈ WALL := wi_1 _ (List.mem_of_getElem? (i := 18) rfl)
theorem m_1_19 : Cond.fieldLink RX5 16 "LampRhythmsModel" "phases" "[I" ∈ WALL := wi_1 _ (List.mem_of_getElem? (i := 19) rfl)
theorem m_1_20 : Cond.fieldLink RX5 19 "LampRhythmsModel" "period" "[I" ∈ WALL := wi_1 _ (List.mem_of_getElem? (i := 20) rfl)
theorem m_1_21 : Cond.fieldLink RX5 22 "LampRhythmsModel" "left" "[I" ∈ WALL := wi_1 _ (List.mem_of_getElem? (i := 21) rfl)
theorem m_1_22 : Cond.fieldLink RX5 25 "LampRhythmsModel" "up" "[I" ∈ WALL := wi_1 _ (List.mem_of_getElem? (i := 22) rfl)
theorem m_1_23 : Cond.fieldLink RX5 28 "LampRhythmsModel" "has" "[I" ∈ WALL := wi_1 _ (List.mem_of_getElem? (i := 23) rfl)
theorem m_1_24 : Cond.fieldLink RX5 31 "LampRhythmsModel" "begun" "[I" ∈ WALL := wi_1 _ (List.mem_of_getElem? (i := 24) rfl)
theorem wi_2 : ∀ w ∈ wa_2, w ∈ WALL := fun _ h => List.mem_append_right _ (List.mem_append_right _ (List.mem_append_left _ (h)))
theorem m_2_0 : Cond.fieldLink RX5 34 "LampRhythmsModel" "reach" "[I" ∈ WALL := wi_2 _ (List.mem_of_getElem? (i := 0) rfl)
theorem m_2_1 : Cond.fieldLink RX5 37 "LampRhythmsModel" "sectors" "[I" ∈ WALL := wi_2 _ (List.mem_of_getElem? (i := 1) rfl)
theorem m_2_2 : Cond.arrayClass .boolean ∈ WALL := wi_2 _ (List.mem_of_getElem? (i := 2) rfl)
theorem m_2_3 : Cond.fieldLink RX5 40 "LampRhythmsModel" "failed" "[Z" ∈ WALL := wi_2 _ (List.mem_of_getElem? (i := 3) rfl)
theorem m_2_4 : Cond.fieldLink RX5 44 "LampRhythmsModel" "notice" "[I" ∈ WALL := wi_2 _ (List.mem_of_getElem? (i := 4) rfl)
theorem m_2_5 : Cond.fieldLink RX5 47 "LampRhythmsModel" "told" "[I" ∈ WALL := wi_2 _ (List.mem_of_getElem? (i := 5) rfl)
theorem m_2_6 : Cond.fieldLink RX5 50 "LampRhythmsModel" "shows" "[I" ∈ WALL := wi_2 _ (List.mem_of_getElem? (i := 6) rfl)
theorem m_2_7 : Cond.methodLink RL 79 yL_phase ∈ WALL := wi_2 _ (List.mem_of_getElem? (i := 7) rfl)
theorem m_2_8 : Cond.static yL_phase ∈ WALL := wi_2 _ (List.mem_of_getElem? (i := 8) rfl)
theorem m_2_9 : Cond.initialized RL ∈ WALL := wi_2 _ (List.mem_of_getElem? (i := 9) rfl)
theorem m_2_10 : Cond.codeWith yL_phase cL_phase 4 (some .int) [(0, 9, 12, 13), (0, 9, 15, 15)] ∈ WALL := wi_2 _ (List.mem_of_getElem? (i := 10) rfl)
theorem m_2_11 : Cond.classLink RL 13 "java/lang/IllegalArgumentException" ∈ WALL := wi_2 _ (List.mem_of_getElem? (i := 11) rfl)
theorem m_2_12 : Cond.classLink RL 15 "java/lang/IllegalStateException" ∈ WALL := wi_2 _ (List.mem_of_getElem? (i := 12) rfl)
theorem m_2_13 : Cond.methodLink RL 7 yX4_phase ∈ WALL := wi_2 _ (List.mem_of_getElem? (i := 13) rfl)
theorem m_2_14 : Cond.instanceMethod yX4_phase ∈ WALL := wi_2 _ (List.mem_of_getElem? (i := 14) rfl)
theorem m_2_15 : Cond.selects RX4 yX4_phase yX4_phase ∈ WALL := wi_2 _ (List.mem_of_getElem? (i := 15) rfl)
theorem m_2_16 : Cond.code yX4_phase cX4_phase 2 (some .int) ∈ WALL := wi_2 _ (List.mem_of_getElem? (i := 16) rfl)
theorem m_2_17 : Cond.classLink RX4 37 "java/lang/IllegalStateException" ∈ WALL := wi_2 _ (List.mem_of_getElem? (i := 17) rfl)
theorem m_2_18 : Cond.initialized "java/lang/IllegalStateException" ∈ WALL := wi_2 _ (List.mem_of_getElem? (i := 18) rfl)
theorem m_2_19 : Cond.methodLink RX4 33 yX4_requireWithin ∈ WALL := wi_2 _ (List.mem_of_getElem? (i := 19) rfl)
theorem m_2_20 : Cond.static yX4_requireWithin ∈ WALL := wi_2 _ (List.mem_of_getElem? (i := 20) rfl)
theorem m_2_21 : Cond.code yX4_requireWithin cX4_requireWithin 3 none ∈ WALL := wi_2 _ (List.mem_of_getElem? (i := 21) rfl)
theorem m_2_22 : Cond.classLink RX4 183 "java/lang/IllegalArgumentException" ∈ WALL := wi_2 _ (List.mem_of_getElem? (i := 22) rfl)
theorem m_2_23 : Cond.initialized "java/lang/IllegalArgumentException" ∈ WALL := wi_2 _ (List.mem_of_getElem? (i := 23) rfl)
theorem m_2_24 : Cond.methodLink RL 84 yX5_phase ∈ WALL := wi_2 _ (List.mem_of_getElem? (i := 24) rfl)
theorem wi_3 : ∀ w ∈ wa_3, w ∈ WALL := fun _ h => List.mem_append_right _ (List.mem_append_right _ (List.mem_append_right _ (List.mem_append_left _ (h))))
theorem m_3_0 : Cond.instanceMethod yX5_phase ∈ WALL := wi_3 _ (List.mem_of_getElem? (i := 0) rfl)
theorem m_3_1 : Cond.selects RX5 yX5_phase yX5_phase ∈ WALL := wi_3 _ (List.mem_of_getElem? (i := 1) rfl)
theorem m_3_2 : Cond.code yX5_phase cX5_phase 2 (some .int) ∈ WALL := wi_3 _ (List.mem_of_getElem? (i := 2) rfl)
theorem m_3_3 : Cond.fieldLink RX5 70 "LampRhythmsModel" "drafted" "I" ∈ WALL := wi_3 _ (List.mem_of_getElem? (i := 3) rfl)
theorem m_3_4 : Cond.fieldLink RX5 53 "LampRhythmsModel" "thrown" "I" ∈ WALL := wi_3 _ (List.mem_of_getElem? (i := 4) rfl)
theorem m_3_5 : Cond.methodLink RX5 60 yX5_isIn ∈ WALL := wi_3 _ (List.mem_of_getElem? (i := 5) rfl)
theorem m_3_6 : Cond.static yX5_isIn ∈ WALL := wi_3 _ (List.mem_of_getElem? (i := 6) rfl)
theorem m_3_7 : Cond.code yX5_isIn cX5_isIn 3 (some .boolean) ∈ WALL := wi_3 _ (List.mem_of_getElem? (i := 7) rfl)
theorem m_3_8 : Cond.methodLink RL 85 yX5_thrown ∈ WALL := wi_3 _ (List.mem_of_getElem? (i := 8) rfl)
theorem m_3_9 : Cond.instanceMethod yX5_thrown ∈ WALL := wi_3 _ (List.mem_of_getElem? (i := 9) rfl)
theorem m_3_10 : Cond.selects RX5 yX5_thrown yX5_thrown ∈ WALL := wi_3 _ (List.mem_of_getElem? (i := 10) rfl)
theorem m_3_11 : Cond.code yX5_thrown cX5_thrown 1 (some .int) ∈ WALL := wi_3 _ (List.mem_of_getElem? (i := 11) rfl)
theorem m_3_12 : Cond.methodLink RL 88 yL_pattern ∈ WALL := wi_3 _ (List.mem_of_getElem? (i := 12) rfl)
theorem m_3_13 : Cond.static yL_pattern ∈ WALL := wi_3 _ (List.mem_of_getElem? (i := 13) rfl)
theorem m_3_14 : Cond.codeWith yL_pattern cL_pattern 3 (some .int) [(0, 8, 11, 15)] ∈ WALL := wi_3 _ (List.mem_of_getElem? (i := 14) rfl)
theorem m_3_15 : Cond.methodLink RL 17 yX4_pattern ∈ WALL := wi_3 _ (List.mem_of_getElem? (i := 15) rfl)
theorem m_3_16 : Cond.instanceMethod yX4_pattern ∈ WALL := wi_3 _ (List.mem_of_getElem? (i := 16) rfl)
theorem m_3_17 : Cond.selects RX4 yX4_pattern yX4_pattern ∈ WALL := wi_3 _ (List.mem_of_getElem? (i := 17) rfl)
theorem m_3_18 : Cond.code yX4_pattern cX4_pattern 1 (some .int) ∈ WALL := wi_3 _ (List.mem_of_getElem? (i := 18) rfl)
theorem m_3_19 : Cond.classLink RX4 52 RX3 ∈ WALL := wi_3 _ (List.mem_of_getElem? (i := 19) rfl)
theorem m_3_20 : Cond.instantiable RX3 4 ∈ WALL := wi_3 _ (List.mem_of_getElem? (i := 20) rfl)
theorem m_3_21 : Cond.initialized RX3 ∈ WALL := wi_3 _ (List.mem_of_getElem? (i := 21) rfl)
theorem m_3_22 : Cond.methodLink RX4 46 yJx4a65c_size_8abf5 ∈ WALL := wi_3 _ (List.mem_of_getElem? (i := 22) rfl)
theorem m_3_23 : Cond.instanceMethod yJx4a65c_size_8abf5 ∈ WALL := wi_3 _ (List.mem_of_getElem? (i := 23) rfl)
theorem m_3_24 : Cond.selects RJx4a65c yJx4a65c_size_8abf5 yJx4a65c_size_8abf5 ∈ WALL := wi_3 _ (List.mem_of_getElem? (i := 24) rfl)
theorem wi_4 : ∀ w ∈ wa_4, w ∈ WALL := fun _ h => List.mem_append_right _ (List.mem_append_right _ (List.mem_append_right _ (List.mem_append_right _ (List.mem_append_left _ (h)))))
theorem m_4_0 : Cond.code yJx4a65c_size_8abf5 cJx4a65c_size_8abf5 1 (some .int) ∈ WALL := wi_4 _ (List.mem_of_getElem? (i := 0) rfl)
theorem m_4_1 : Cond.fieldLink RJx4a65c 48 "java/util/ArrayList" "size" "I" ∈ WALL := wi_4 _ (List.mem_of_getElem? (i := 1) rfl)
theorem m_4_2 : Cond.methodLink RX4 54 yJ7_copyOf_59c91 ∈ WALL := wi_4 _ (List.mem_of_getElem? (i := 2) rfl)
theorem m_4_3 : Cond.static yJ7_copyOf_59c91 ∈ WALL := wi_4 _ (List.mem_of_getElem? (i := 3) rfl)
theorem m_4_4 : Cond.initialized RJ7 ∈ WALL := wi_4 _ (List.mem_of_getElem? (i := 4) rfl)
theorem m_4_5 : Cond.code yJ7_copyOf_59c91 cJ7_copyOf_59c91 3 (some (.array .int)) ∈ WALL := wi_4 _ (List.mem_of_getElem? (i := 5) rfl)
theorem m_4_6 : Cond.methodLink RJ7 316 ⟨"[I", "clone", "()Ljava/lang/Object;"⟩ ∈ WALL := wi_4 _ (List.mem_of_getElem? (i := 6) rfl)
theorem m_4_7 : Cond.sameMethod "[I" "java/lang/Object" "clone" "()Ljava/lang/Object;" ∈ WALL := wi_4 _ (List.mem_of_getElem? (i := 7) rfl)
theorem m_4_8 : Cond.native ⟨"java/lang/Object", "clone", "()Ljava/lang/Object;"⟩ ∈ WALL := wi_4 _ (List.mem_of_getElem? (i := 8) rfl)
theorem m_4_9 : Cond.instanceMethod ⟨"java/lang/Object", "clone", "()Ljava/lang/Object;"⟩ ∈ WALL := wi_4 _ (List.mem_of_getElem? (i := 9) rfl)
theorem m_4_10 : Cond.selects "[I" ⟨"[I", "clone", "()Ljava/lang/Object;"⟩ ⟨"java/lang/Object", "clone", "()Ljava/lang/Object;"⟩ ∈ WALL := wi_4 _ (List.mem_of_getElem? (i := 10) rfl)
theorem m_4_11 : Cond.classLink RJ7 317 "[I" ∈ WALL := wi_4 _ (List.mem_of_getElem? (i := 11) rfl)
theorem m_4_12 : Cond.methodLink RJ7 304 Lib.Math.min.name ∈ WALL := wi_4 _ (List.mem_of_getElem? (i := 12) rfl)
theorem m_4_13 : Cond.static Lib.Math.min.name ∈ WALL := wi_4 _ (List.mem_of_getElem? (i := 13) rfl)
theorem m_4_14 : Cond.initialized "java/lang/Math" ∈ WALL := wi_4 _ (List.mem_of_getElem? (i := 14) rfl)
theorem m_4_15 : Cond.code Lib.Math.min.name Lib.Math.min.code 2 (some .int) ∈ WALL := wi_4 _ (List.mem_of_getElem? (i := 15) rfl)
theorem m_4_16 : Cond.methodLink RJ7 150 arraycopyName ∈ WALL := wi_4 _ (List.mem_of_getElem? (i := 16) rfl)
theorem m_4_17 : Cond.native arraycopyName ∈ WALL := wi_4 _ (List.mem_of_getElem? (i := 17) rfl)
theorem m_4_18 : Cond.static arraycopyName ∈ WALL := wi_4 _ (List.mem_of_getElem? (i := 18) rfl)
theorem m_4_19 : Cond.initialized "java/lang/System" ∈ WALL := wi_4 _ (List.mem_of_getElem? (i := 19) rfl)
theorem m_4_20 : Cond.methodLink RX4 60 yX3_init ∈ WALL := wi_4 _ (List.mem_of_getElem? (i := 20) rfl)
theorem m_4_21 : Cond.instanceMethod yX3_init ∈ WALL := wi_4 _ (List.mem_of_getElem? (i := 21) rfl)
theorem m_4_22 : Cond.code yX3_init cX3_init 7 none ∈ WALL := wi_4 _ (List.mem_of_getElem? (i := 22) rfl)
theorem m_4_23 : Cond.methodLink RX3 1 objectInit ∈ WALL := wi_4 _ (List.mem_of_getElem? (i := 23) rfl)
theorem m_4_24 : Cond.fieldLink RX3 7 "LampRhythms$Pattern" "phases" "[I" ∈ WALL := wi_4 _ (List.mem_of_getElem? (i := 24) rfl)
theorem wi_5 : ∀ w ∈ wa_5, w ∈ WALL := fun _ h => List.mem_append_right _ (List.mem_append_right _ (List.mem_append_right _ (List.mem_append_right _ (List.mem_append_right _ (List.mem_append_left _ (h))))))
theorem m_5_0 : Cond.fieldLink RX3 13 "LampRhythms$Pattern" "period" "I" ∈ WALL := wi_5 _ (List.mem_of_getElem? (i := 0) rfl)
theorem m_5_1 : Cond.fieldLink RX3 17 "LampRhythms$Pattern" "light" "J" ∈ WALL := wi_5 _ (List.mem_of_getElem? (i := 1) rfl)
theorem m_5_2 : Cond.fieldLink RX3 25 "LampRhythms$Pattern" "cycle" "I" ∈ WALL := wi_5 _ (List.mem_of_getElem? (i := 2) rfl)
theorem m_5_3 : Cond.methodLink RX3 21 yX3_cycleOf ∈ WALL := wi_5 _ (List.mem_of_getElem? (i := 3) rfl)
theorem m_5_4 : Cond.static yX3_cycleOf ∈ WALL := wi_5 _ (List.mem_of_getElem? (i := 4) rfl)
theorem m_5_5 : Cond.code yX3_cycleOf cX3_cycleOf 2 (some .int) ∈ WALL := wi_5 _ (List.mem_of_getElem? (i := 5) rfl)
theorem m_5_6 : Cond.methodLink RX3 28 yX3_repeatsAfter ∈ WALL := wi_5 _ (List.mem_of_getElem? (i := 6) rfl)
theorem m_5_7 : Cond.static yX3_repeatsAfter ∈ WALL := wi_5 _ (List.mem_of_getElem? (i := 7) rfl)
theorem m_5_8 : Cond.code yX3_repeatsAfter cX3_repeatsAfter 3 (some .boolean) ∈ WALL := wi_5 _ (List.mem_of_getElem? (i := 8) rfl)
theorem m_5_9 : Cond.methodLink RX4 63 yJx4a65c_add_9ea2d ∈ WALL := wi_5 _ (List.mem_of_getElem? (i := 9) rfl)
theorem m_5_10 : Cond.instanceMethod yJx4a65c_add_9ea2d ∈ WALL := wi_5 _ (List.mem_of_getElem? (i := 10) rfl)
theorem m_5_11 : Cond.selects RJx4a65c yJx4a65c_add_9ea2d yJx4a65c_add_9ea2d ∈ WALL := wi_5 _ (List.mem_of_getElem? (i := 11) rfl)
theorem m_5_12 : Cond.code yJx4a65c_add_9ea2d cJx4a65c_add_9ea2d 2 (some .boolean) ∈ WALL := wi_5 _ (List.mem_of_getElem? (i := 12) rfl)
theorem m_5_13 : Cond.fieldLink RJx4a65c 63 "java/util/ArrayList" "modCount" "I" ∈ WALL := wi_5 _ (List.mem_of_getElem? (i := 13) rfl)
theorem m_5_14 : Cond.sameField "java/util/ArrayList" "java/util/AbstractList" "modCount" "I" ∈ WALL := wi_5 _ (List.mem_of_getElem? (i := 14) rfl)
theorem m_5_15 : Cond.methodLink RJx4a65c 131 yJx4a65c_add_72be8 ∈ WALL := wi_5 _ (List.mem_of_getElem? (i := 15) rfl)
theorem m_5_16 : Cond.instanceMethod yJx4a65c_add_72be8 ∈ WALL := wi_5 _ (List.mem_of_getElem? (i := 16) rfl)
theorem m_5_17 : Cond.selects RJx4a65c yJx4a65c_add_72be8 yJx4a65c_add_72be8 ∈ WALL := wi_5 _ (List.mem_of_getElem? (i := 17) rfl)
theorem m_5_18 : Cond.code yJx4a65c_add_72be8 cJx4a65c_add_72be8 4 none ∈ WALL := wi_5 _ (List.mem_of_getElem? (i := 18) rfl)
theorem m_5_19 : Cond.methodLink RJx4a65c 129 yJx4a65c_grow_d5877 ∈ WALL := wi_5 _ (List.mem_of_getElem? (i := 19) rfl)
theorem m_5_20 : Cond.instanceMethod yJx4a65c_grow_d5877 ∈ WALL := wi_5 _ (List.mem_of_getElem? (i := 20) rfl)
theorem m_5_21 : Cond.selects RJx4a65c yJx4a65c_grow_d5877 yJx4a65c_grow_d5877 ∈ WALL := wi_5 _ (List.mem_of_getElem? (i := 21) rfl)
theorem m_5_22 : Cond.code yJx4a65c_grow_d5877 cJx4a65c_grow_d5877 1 (some (.array (.object "java/lang/Object"))) ∈ WALL := wi_5 _ (List.mem_of_getElem? (i := 22) rfl)
theorem m_5_23 : Cond.methodLink RJx4a65c 69 yJx4a65c_grow_92f84 ∈ WALL := wi_5 _ (List.mem_of_getElem? (i := 23) rfl)
theorem m_5_24 : Cond.instanceMethod yJx4a65c_grow_92f84 ∈ WALL := wi_5 _ (List.mem_of_getElem? (i := 24) rfl)
theorem wi_6 : ∀ w ∈ wa_6, w ∈ WALL := fun _ h => List.mem_append_right _ (List.mem_append_right _ (List.mem_append_right _ (List.mem_append_right _ (List.mem_append_right _ (List.mem_append_right _ (List.mem_append_left _ (h)))))))
theorem m_6_0 : Cond.selects RJx4a65c yJx4a65c_grow_92f84 yJx4a65c_grow_92f84 ∈ WALL := wi_6 _ (List.mem_of_getElem? (i := 0) rfl)
theorem m_6_1 : Cond.code yJx4a65c_grow_92f84 cJx4a65c_grow_92f84 4 (some (.array (.object "java/lang/Object"))) ∈ WALL := wi_6 _ (List.mem_of_getElem? (i := 1) rfl)
theorem m_6_2 : Cond.methodLink RJx4a65c 79 Lib.Math.max.name ∈ WALL := wi_6 _ (List.mem_of_getElem? (i := 2) rfl)
theorem m_6_3 : Cond.static Lib.Math.max.name ∈ WALL := wi_6 _ (List.mem_of_getElem? (i := 3) rfl)
theorem m_6_4 : Cond.code Lib.Math.max.name Lib.Math.max.code 2 (some .int) ∈ WALL := wi_6 _ (List.mem_of_getElem? (i := 4) rfl)
theorem m_6_5 : Cond.classLink RJx4a65c 7 "java/lang/Object" ∈ WALL := wi_6 _ (List.mem_of_getElem? (i := 5) rfl)
theorem m_6_6 : Cond.methodLink RJx4a65c 73 yJ8_newLength_cabcc ∈ WALL := wi_6 _ (List.mem_of_getElem? (i := 6) rfl)
theorem m_6_7 : Cond.static yJ8_newLength_cabcc ∈ WALL := wi_6 _ (List.mem_of_getElem? (i := 7) rfl)
theorem m_6_8 : Cond.initialized RJ8 ∈ WALL := wi_6 _ (List.mem_of_getElem? (i := 8) rfl)
theorem m_6_9 : Cond.code yJ8_newLength_cabcc cJ8_newLength_cabcc 4 (some .int) ∈ WALL := wi_6 _ (List.mem_of_getElem? (i := 9) rfl)
theorem m_6_10 : Cond.methodLink RJ8 194 Lib.Math.max.name ∈ WALL := wi_6 _ (List.mem_of_getElem? (i := 10) rfl)
theorem m_6_11 : Cond.constant RJ8 200 (2147483639) ∈ WALL := wi_6 _ (List.mem_of_getElem? (i := 11) rfl)
theorem m_6_12 : Cond.methodLink RJ8 201 yJ8_hugeLength_7cf53 ∈ WALL := wi_6 _ (List.mem_of_getElem? (i := 12) rfl)
theorem m_6_13 : Cond.static yJ8_hugeLength_7cf53 ∈ WALL := wi_6 _ (List.mem_of_getElem? (i := 13) rfl)
theorem m_6_14 : Cond.code yJ8_hugeLength_7cf53 cJ8_hugeLength_7cf53 3 (some .int) ∈ WALL := wi_6 _ (List.mem_of_getElem? (i := 14) rfl)
theorem m_6_15 : Cond.methodLink RJx4a65c 66 yJ7_copyOf_1904c ∈ WALL := wi_6 _ (List.mem_of_getElem? (i := 15) rfl)
theorem m_6_16 : Cond.static yJ7_copyOf_1904c ∈ WALL := wi_6 _ (List.mem_of_getElem? (i := 16) rfl)
theorem m_6_17 : Cond.code yJ7_copyOf_1904c cJ7_copyOf_1904c 2 (some (.array (.object "java/lang/Object"))) ∈ WALL := wi_6 _ (List.mem_of_getElem? (i := 17) rfl)
theorem m_6_18 : Cond.methodLink RJ7 86 ⟨"java/lang/Object", "getClass", "()Ljava/lang/Class;"⟩ ∈ WALL := wi_6 _ (List.mem_of_getElem? (i := 18) rfl)
theorem m_6_19 : Cond.selects "[Ljava/lang/Object;" ⟨"java/lang/Object", "getClass", "()Ljava/lang/Class;"⟩ ⟨"java/lang/Object", "getClass", "()Ljava/lang/Class;"⟩ ∈ WALL := wi_6 _ (List.mem_of_getElem? (i := 19) rfl)
theorem m_6_20 : Cond.instanceMethod ⟨"java/lang/Object", "getClass", "()Ljava/lang/Class;"⟩ ∈ WALL := wi_6 _ (List.mem_of_getElem? (i := 20) rfl)
theorem m_6_21 : Cond.native ⟨"java/lang/Object", "getClass", "()Ljava/lang/Class;"⟩ ∈ WALL := wi_6 _ (List.mem_of_getElem? (i := 21) rfl)
theorem m_6_22 : Cond.methodLink RJ7 300 yJ7_copyOf_6403c ∈ WALL := wi_6 _ (List.mem_of_getElem? (i := 22) rfl)
theorem m_6_23 : Cond.static yJ7_copyOf_6403c ∈ WALL := wi_6 _ (List.mem_of_getElem? (i := 23) rfl)
theorem m_6_24 : Cond.code yJ7_copyOf_6403c cJ7_copyOf_6403c 4 (some (.array (.object "java/lang/Object"))) ∈ WALL := wi_6 _ (List.mem_of_getElem? (i := 24) rfl)
theorem wi_7 : ∀ w ∈ wa_7, w ∈ WALL := fun _ h => List.mem_append_right _ (List.mem_append_right _ (List.mem_append_right _ (List.mem_append_right _ (List.mem_append_right _ (List.mem_append_right _ (List.mem_append_right _ (List.mem_append_left _ (h))))))))
theorem m_7_0 : Cond.classLink RJ7 110 "[Ljava/lang/Object;" ∈ WALL := wi_7 _ (List.mem_of_getElem? (i := 0) rfl)
theorem m_7_1 : Cond.classLink RJ7 2 "java/lang/Object" ∈ WALL := wi_7 _ (List.mem_of_getElem? (i := 1) rfl)
theorem m_7_2 : Cond.methodLink RL 91 yX5_pattern ∈ WALL := wi_7 _ (List.mem_of_getElem? (i := 2) rfl)
theorem m_7_3 : Cond.instanceMethod yX5_pattern ∈ WALL := wi_7 _ (List.mem_of_getElem? (i := 3) rfl)
theorem m_7_4 : Cond.selects RX5 yX5_pattern yX5_pattern ∈ WALL := wi_7 _ (List.mem_of_getElem? (i := 4) rfl)
theorem m_7_5 : Cond.code yX5_pattern cX5_pattern 3 (some .int) ∈ WALL := wi_7 _ (List.mem_of_getElem? (i := 5) rfl)
theorem m_7_6 : Cond.fieldLink RX5 57 "LampRhythmsModel" "patterns" "I" ∈ WALL := wi_7 _ (List.mem_of_getElem? (i := 6) rfl)
theorem m_7_7 : Cond.methodLink RL 92 yL_period ∈ WALL := wi_7 _ (List.mem_of_getElem? (i := 7) rfl)
theorem m_7_8 : Cond.static yL_period ∈ WALL := wi_7 _ (List.mem_of_getElem? (i := 8) rfl)
theorem m_7_9 : Cond.codeWith yL_period cL_period 4 (some .int) [(0, 9, 12, 24)] ∈ WALL := wi_7 _ (List.mem_of_getElem? (i := 9) rfl)
theorem m_7_10 : Cond.classLink RL 24 "java/lang/IndexOutOfBoundsException" ∈ WALL := wi_7 _ (List.mem_of_getElem? (i := 10) rfl)
theorem m_7_11 : Cond.methodLink RL 21 yX4_period ∈ WALL := wi_7 _ (List.mem_of_getElem? (i := 11) rfl)
theorem m_7_12 : Cond.instanceMethod yX4_period ∈ WALL := wi_7 _ (List.mem_of_getElem? (i := 12) rfl)
theorem m_7_13 : Cond.selects RX4 yX4_period yX4_period ∈ WALL := wi_7 _ (List.mem_of_getElem? (i := 13) rfl)
theorem m_7_14 : Cond.code yX4_period cX4_period 2 (some .int) ∈ WALL := wi_7 _ (List.mem_of_getElem? (i := 14) rfl)
theorem m_7_15 : Cond.fieldLink RX4 71 "LampRhythms$Pattern" "period" "I" ∈ WALL := wi_7 _ (List.mem_of_getElem? (i := 15) rfl)
theorem m_7_16 : Cond.methodLink RX4 67 yX4_patternAt ∈ WALL := wi_7 _ (List.mem_of_getElem? (i := 16) rfl)
theorem m_7_17 : Cond.instanceMethod yX4_patternAt ∈ WALL := wi_7 _ (List.mem_of_getElem? (i := 17) rfl)
theorem m_7_18 : Cond.selects RX4 yX4_patternAt yX4_patternAt ∈ WALL := wi_7 _ (List.mem_of_getElem? (i := 18) rfl)
theorem m_7_19 : Cond.code yX4_patternAt cX4_patternAt 2 (some (.object "LampRhythms$Pattern")) ∈ WALL := wi_7 _ (List.mem_of_getElem? (i := 19) rfl)
theorem m_7_20 : Cond.classLink RX4 52 "LampRhythms$Pattern" ∈ WALL := wi_7 _ (List.mem_of_getElem? (i := 20) rfl)
theorem m_7_21 : Cond.methodLink RX4 81 yX4_requirePattern ∈ WALL := wi_7 _ (List.mem_of_getElem? (i := 21) rfl)
theorem m_7_22 : Cond.instanceMethod yX4_requirePattern ∈ WALL := wi_7 _ (List.mem_of_getElem? (i := 22) rfl)
theorem m_7_23 : Cond.selects RX4 yX4_requirePattern yX4_requirePattern ∈ WALL := wi_7 _ (List.mem_of_getElem? (i := 23) rfl)
theorem m_7_24 : Cond.code yX4_requirePattern cX4_requirePattern 2 none ∈ WALL := wi_7 _ (List.mem_of_getElem? (i := 24) rfl)
theorem wi_8 : ∀ w ∈ wa_8, w ∈ WALL := fun _ h => List.mem_append_right _ (List.mem_append_right _ (List.mem_append_right _ (List.mem_append_right _ (List.mem_append_right _ (List.mem_append_right _ (List.mem_append_right _ (List.mem_append_right _ (List.mem_append_left _ (h)))))))))
theorem m_8_0 : Cond.classLink RX4 188 "java/lang/IndexOutOfBoundsException" ∈ WALL := wi_8 _ (List.mem_of_getElem? (i := 0) rfl)
theorem m_8_1 : Cond.initialized "java/lang/IndexOutOfBoundsException" ∈ WALL := wi_8 _ (List.mem_of_getElem? (i := 1) rfl)
theorem m_8_2 : Cond.methodLink RX4 139 yJx4a65c_get_915e3 ∈ WALL := wi_8 _ (List.mem_of_getElem? (i := 2) rfl)
theorem m_8_3 : Cond.instanceMethod yJx4a65c_get_915e3 ∈ WALL := wi_8 _ (List.mem_of_getElem? (i := 3) rfl)
theorem m_8_4 : Cond.selects RJx4a65c yJx4a65c_get_915e3 yJx4a65c_get_915e3 ∈ WALL := wi_8 _ (List.mem_of_getElem? (i := 4) rfl)
theorem m_8_5 : Cond.code yJx4a65c_get_915e3 cJx4a65c_get_915e3 2 (some (.object "java/lang/Object")) ∈ WALL := wi_8 _ (List.mem_of_getElem? (i := 5) rfl)
theorem m_8_6 : Cond.methodLink RJx4a65c 118 yJ15_checkIndex_7cf53 ∈ WALL := wi_8 _ (List.mem_of_getElem? (i := 6) rfl)
theorem m_8_7 : Cond.static yJ15_checkIndex_7cf53 ∈ WALL := wi_8 _ (List.mem_of_getElem? (i := 7) rfl)
theorem m_8_8 : Cond.initialized RJ15 ∈ WALL := wi_8 _ (List.mem_of_getElem? (i := 8) rfl)
theorem m_8_9 : Cond.code yJ15_checkIndex_7cf53 cJ15_checkIndex_7cf53 2 (some .int) ∈ WALL := wi_8 _ (List.mem_of_getElem? (i := 9) rfl)
theorem m_8_10 : Cond.methodLink RJ15 105 yJ3_checkIndex_8e157 ∈ WALL := wi_8 _ (List.mem_of_getElem? (i := 10) rfl)
theorem m_8_11 : Cond.static yJ3_checkIndex_8e157 ∈ WALL := wi_8 _ (List.mem_of_getElem? (i := 11) rfl)
theorem m_8_12 : Cond.initialized RJ3 ∈ WALL := wi_8 _ (List.mem_of_getElem? (i := 12) rfl)
theorem m_8_13 : Cond.code yJ3_checkIndex_8e157 cJ3_checkIndex_8e157 3 (some .int) ∈ WALL := wi_8 _ (List.mem_of_getElem? (i := 13) rfl)
theorem m_8_14 : Cond.methodLink RJx4a65c 123 yJx4a65c_elementData_915e3 ∈ WALL := wi_8 _ (List.mem_of_getElem? (i := 14) rfl)
theorem m_8_15 : Cond.instanceMethod yJx4a65c_elementData_915e3 ∈ WALL := wi_8 _ (List.mem_of_getElem? (i := 15) rfl)
theorem m_8_16 : Cond.selects RJx4a65c yJx4a65c_elementData_915e3 yJx4a65c_elementData_915e3 ∈ WALL := wi_8 _ (List.mem_of_getElem? (i := 16) rfl)
theorem m_8_17 : Cond.code yJx4a65c_elementData_915e3 cJx4a65c_elementData_915e3 2 (some (.object "java/lang/Object")) ∈ WALL := wi_8 _ (List.mem_of_getElem? (i := 17) rfl)
theorem m_8_18 : Cond.methodLink RL 94 yX5_period ∈ WALL := wi_8 _ (List.mem_of_getElem? (i := 18) rfl)
theorem m_8_19 : Cond.instanceMethod yX5_period ∈ WALL := wi_8 _ (List.mem_of_getElem? (i := 19) rfl)
theorem m_8_20 : Cond.selects RX5 yX5_period yX5_period ∈ WALL := wi_8 _ (List.mem_of_getElem? (i := 20) rfl)
theorem m_8_21 : Cond.code yX5_period cX5_period 2 (some .int) ∈ WALL := wi_8 _ (List.mem_of_getElem? (i := 21) rfl)
theorem m_8_22 : Cond.methodLink RX5 73 yX5_isPattern ∈ WALL := wi_8 _ (List.mem_of_getElem? (i := 22) rfl)
theorem m_8_23 : Cond.instanceMethod yX5_isPattern ∈ WALL := wi_8 _ (List.mem_of_getElem? (i := 23) rfl)
theorem m_8_24 : Cond.selects RX5 yX5_isPattern yX5_isPattern ∈ WALL := wi_8 _ (List.mem_of_getElem? (i := 24) rfl)
theorem wi_9 : ∀ w ∈ wa_9, w ∈ WALL := fun _ h => List.mem_append_right _ (List.mem_append_right _ (List.mem_append_right _ (List.mem_append_right _ (List.mem_append_right _ (List.mem_append_right _ (List.mem_append_right _ (List.mem_append_right _ (List.mem_append_right _ (List.mem_append_left _ (h))))))))))
theorem m_9_0 : Cond.code yX5_isPattern cX5_isPattern 2 (some .boolean) ∈ WALL := wi_9 _ (List.mem_of_getElem? (i := 0) rfl)
theorem m_9_1 : Cond.methodLink RL 95 yL_areAlike ∈ WALL := wi_9 _ (List.mem_of_getElem? (i := 1) rfl)
theorem m_9_2 : Cond.static yL_areAlike ∈ WALL := wi_9 _ (List.mem_of_getElem? (i := 2) rfl)
theorem m_9_3 : Cond.codeWith yL_areAlike cL_areAlike 5 (some .int) [(0, 17, 20, 24)] ∈ WALL := wi_9 _ (List.mem_of_getElem? (i := 3) rfl)
theorem m_9_4 : Cond.methodLink RL 26 yX4_areAlike ∈ WALL := wi_9 _ (List.mem_of_getElem? (i := 4) rfl)
theorem m_9_5 : Cond.instanceMethod yX4_areAlike ∈ WALL := wi_9 _ (List.mem_of_getElem? (i := 5) rfl)
theorem m_9_6 : Cond.selects RX4 yX4_areAlike yX4_areAlike ∈ WALL := wi_9 _ (List.mem_of_getElem? (i := 6) rfl)
theorem m_9_7 : Cond.code yX4_areAlike cX4_areAlike 3 (some .boolean) ∈ WALL := wi_9 _ (List.mem_of_getElem? (i := 7) rfl)
theorem m_9_8 : Cond.methodLink RX4 74 yX3_hasPhasesOf ∈ WALL := wi_9 _ (List.mem_of_getElem? (i := 8) rfl)
theorem m_9_9 : Cond.instanceMethod yX3_hasPhasesOf ∈ WALL := wi_9 _ (List.mem_of_getElem? (i := 9) rfl)
theorem m_9_10 : Cond.selects RX3 yX3_hasPhasesOf yX3_hasPhasesOf ∈ WALL := wi_9 _ (List.mem_of_getElem? (i := 10) rfl)
theorem m_9_11 : Cond.code yX3_hasPhasesOf cX3_hasPhasesOf 3 (some .boolean) ∈ WALL := wi_9 _ (List.mem_of_getElem? (i := 11) rfl)
theorem m_9_12 : Cond.methodLink RX3 32 yX3_hasPhasesTurned ∈ WALL := wi_9 _ (List.mem_of_getElem? (i := 12) rfl)
theorem m_9_13 : Cond.instanceMethod yX3_hasPhasesTurned ∈ WALL := wi_9 _ (List.mem_of_getElem? (i := 13) rfl)
theorem m_9_14 : Cond.selects RX3 yX3_hasPhasesTurned yX3_hasPhasesTurned ∈ WALL := wi_9 _ (List.mem_of_getElem? (i := 14) rfl)
theorem m_9_15 : Cond.code yX3_hasPhasesTurned cX3_hasPhasesTurned 5 (some .boolean) ∈ WALL := wi_9 _ (List.mem_of_getElem? (i := 15) rfl)
theorem m_9_16 : Cond.methodLink RL 98 yX5_areAlike ∈ WALL := wi_9 _ (List.mem_of_getElem? (i := 16) rfl)
theorem m_9_17 : Cond.instanceMethod yX5_areAlike ∈ WALL := wi_9 _ (List.mem_of_getElem? (i := 17) rfl)
theorem m_9_18 : Cond.selects RX5 yX5_areAlike yX5_areAlike ∈ WALL := wi_9 _ (List.mem_of_getElem? (i := 18) rfl)
theorem m_9_19 : Cond.code yX5_areAlike cX5_areAlike 3 (some .boolean) ∈ WALL := wi_9 _ (List.mem_of_getElem? (i := 19) rfl)
theorem m_9_20 : Cond.methodLink RX5 88 yX5_asksAlike ∈ WALL := wi_9 _ (List.mem_of_getElem? (i := 20) rfl)
theorem m_9_21 : Cond.instanceMethod yX5_asksAlike ∈ WALL := wi_9 _ (List.mem_of_getElem? (i := 21) rfl)
theorem m_9_22 : Cond.selects RX5 yX5_asksAlike yX5_asksAlike ∈ WALL := wi_9 _ (List.mem_of_getElem? (i := 22) rfl)
theorem m_9_23 : Cond.code yX5_asksAlike cX5_asksAlike 3 (some .boolean) ∈ WALL := wi_9 _ (List.mem_of_getElem? (i := 23) rfl)
theorem m_9_24 : Cond.methodLink RX5 85 yX5_alike ∈ WALL := wi_9 _ (List.mem_of_getElem? (i := 24) rfl)
theorem wi_10 : ∀ w ∈ wa_10, w ∈ WALL := fun _ h => List.mem_append_right _ (List.mem_append_right _ (List.mem_append_right _ (List.mem_append_right _ (List.mem_append_right _ (List.mem_append_right _ (List.mem_append_right _ (List.mem_append_right _ (List.mem_append_right _ (List.mem_append_right _ (List.mem_append_left _ (h)))))))))))
theorem m_10_0 : Cond.instanceMethod yX5_alike ∈ WALL := wi_10 _ (List.mem_of_getElem? (i := 0) rfl)
theorem m_10_1 : Cond.selects RX5 yX5_alike yX5_alike ∈ WALL := wi_10 _ (List.mem_of_getElem? (i := 1) rfl)
theorem m_10_2 : Cond.code yX5_alike cX5_alike 8 (some .boolean) ∈ WALL := wi_10 _ (List.mem_of_getElem? (i := 2) rfl)
theorem m_10_3 : Cond.methodLink RX5 81 yX5_returns ∈ WALL := wi_10 _ (List.mem_of_getElem? (i := 3) rfl)
theorem m_10_4 : Cond.instanceMethod yX5_returns ∈ WALL := wi_10 _ (List.mem_of_getElem? (i := 4) rfl)
theorem m_10_5 : Cond.selects RX5 yX5_returns yX5_returns ∈ WALL := wi_10 _ (List.mem_of_getElem? (i := 5) rfl)
theorem m_10_6 : Cond.code yX5_returns cX5_returns 6 (some .int) ∈ WALL := wi_10 _ (List.mem_of_getElem? (i := 6) rfl)
theorem m_10_7 : Cond.methodLink RX5 77 yX5_isLight ∈ WALL := wi_10 _ (List.mem_of_getElem? (i := 7) rfl)
theorem m_10_8 : Cond.instanceMethod yX5_isLight ∈ WALL := wi_10 _ (List.mem_of_getElem? (i := 8) rfl)
theorem m_10_9 : Cond.selects RX5 yX5_isLight yX5_isLight ∈ WALL := wi_10 _ (List.mem_of_getElem? (i := 9) rfl)
theorem m_10_10 : Cond.code yX5_isLight cX5_isLight 5 (some .boolean) ∈ WALL := wi_10 _ (List.mem_of_getElem? (i := 10) rfl)
theorem m_10_11 : Cond.methodLink RL 99 yL_areAlikeBySeconds ∈ WALL := wi_10 _ (List.mem_of_getElem? (i := 11) rfl)
theorem m_10_12 : Cond.static yL_areAlikeBySeconds ∈ WALL := wi_10 _ (List.mem_of_getElem? (i := 12) rfl)
theorem m_10_13 : Cond.codeWith yL_areAlikeBySeconds cL_areAlikeBySeconds 5 (some .int) [(0, 17, 20, 24)] ∈ WALL := wi_10 _ (List.mem_of_getElem? (i := 13) rfl)
theorem m_10_14 : Cond.methodLink RL 30 yX4_areAlikeBySeconds ∈ WALL := wi_10 _ (List.mem_of_getElem? (i := 14) rfl)
theorem m_10_15 : Cond.instanceMethod yX4_areAlikeBySeconds ∈ WALL := wi_10 _ (List.mem_of_getElem? (i := 15) rfl)
theorem m_10_16 : Cond.selects RX4 yX4_areAlikeBySeconds yX4_areAlikeBySeconds ∈ WALL := wi_10 _ (List.mem_of_getElem? (i := 16) rfl)
theorem m_10_17 : Cond.code yX4_areAlikeBySeconds cX4_areAlikeBySeconds 3 (some .boolean) ∈ WALL := wi_10 _ (List.mem_of_getElem? (i := 17) rfl)
theorem m_10_18 : Cond.methodLink RX4 78 yX3_hasSecondsOf ∈ WALL := wi_10 _ (List.mem_of_getElem? (i := 18) rfl)
theorem m_10_19 : Cond.instanceMethod yX3_hasSecondsOf ∈ WALL := wi_10 _ (List.mem_of_getElem? (i := 19) rfl)
theorem m_10_20 : Cond.selects RX3 yX3_hasSecondsOf yX3_hasSecondsOf ∈ WALL := wi_10 _ (List.mem_of_getElem? (i := 20) rfl)
theorem m_10_21 : Cond.code yX3_hasSecondsOf cX3_hasSecondsOf 3 (some .boolean) ∈ WALL := wi_10 _ (List.mem_of_getElem? (i := 21) rfl)
theorem m_10_22 : Cond.methodLink RX3 36 yX3_hasSecondsLater ∈ WALL := wi_10 _ (List.mem_of_getElem? (i := 22) rfl)
theorem m_10_23 : Cond.instanceMethod yX3_hasSecondsLater ∈ WALL := wi_10 _ (List.mem_of_getElem? (i := 23) rfl)
theorem m_10_24 : Cond.selects RX3 yX3_hasSecondsLater yX3_hasSecondsLater ∈ WALL := wi_10 _ (List.mem_of_getElem? (i := 24) rfl)
theorem wi_11 : ∀ w ∈ wa_11, w ∈ WALL := fun _ h => List.mem_append_right _ (List.mem_append_right _ (List.mem_append_right _ (List.mem_append_right _ (List.mem_append_right _ (List.mem_append_right _ (List.mem_append_right _ (List.mem_append_right _ (List.mem_append_right _ (List.mem_append_right _ (List.mem_append_right _ (List.mem_append_left _ (h))))))))))))
theorem m_11_0 : Cond.code yX3_hasSecondsLater cX3_hasSecondsLater 5 (some .boolean) ∈ WALL := wi_11 _ (List.mem_of_getElem? (i := 0) rfl)
theorem m_11_1 : Cond.methodLink RX3 39 yX3_isLight ∈ WALL := wi_11 _ (List.mem_of_getElem? (i := 1) rfl)
theorem m_11_2 : Cond.instanceMethod yX3_isLight ∈ WALL := wi_11 _ (List.mem_of_getElem? (i := 2) rfl)
theorem m_11_3 : Cond.selects RX3 yX3_isLight yX3_isLight ∈ WALL := wi_11 _ (List.mem_of_getElem? (i := 3) rfl)
theorem m_11_4 : Cond.code yX3_isLight cX3_isLight 2 (some .boolean) ∈ WALL := wi_11 _ (List.mem_of_getElem? (i := 4) rfl)
theorem m_11_5 : Cond.methodLink RL 101 yX5_areAlikeBySeconds ∈ WALL := wi_11 _ (List.mem_of_getElem? (i := 5) rfl)
theorem m_11_6 : Cond.instanceMethod yX5_areAlikeBySeconds ∈ WALL := wi_11 _ (List.mem_of_getElem? (i := 6) rfl)
theorem m_11_7 : Cond.selects RX5 yX5_areAlikeBySeconds yX5_areAlikeBySeconds ∈ WALL := wi_11 _ (List.mem_of_getElem? (i := 7) rfl)
theorem m_11_8 : Cond.code yX5_areAlikeBySeconds cX5_areAlikeBySeconds 3 (some .boolean) ∈ WALL := wi_11 _ (List.mem_of_getElem? (i := 8) rfl)
theorem m_11_9 : Cond.methodLink RL 102 yL_lamp ∈ WALL := wi_11 _ (List.mem_of_getElem? (i := 9) rfl)
theorem m_11_10 : Cond.static yL_lamp ∈ WALL := wi_11 _ (List.mem_of_getElem? (i := 10) rfl)
theorem m_11_11 : Cond.codeWith yL_lamp cL_lamp 8 (some .int) [(0, 16, 19, 24), (0, 16, 23, 13), (0, 16, 27, 15)] ∈ WALL := wi_11 _ (List.mem_of_getElem? (i := 11) rfl)
theorem m_11_12 : Cond.methodLink RL 33 yX4_lamp ∈ WALL := wi_11 _ (List.mem_of_getElem? (i := 12) rfl)
theorem m_11_13 : Cond.instanceMethod yX4_lamp ∈ WALL := wi_11 _ (List.mem_of_getElem? (i := 13) rfl)
theorem m_11_14 : Cond.selects RX4 yX4_lamp yX4_lamp ∈ WALL := wi_11 _ (List.mem_of_getElem? (i := 14) rfl)
theorem m_11_15 : Cond.code yX4_lamp cX4_lamp 7 (some .int) ∈ WALL := wi_11 _ (List.mem_of_getElem? (i := 15) rfl)
theorem m_11_16 : Cond.classLink RX4 91 RX1 ∈ WALL := wi_11 _ (List.mem_of_getElem? (i := 16) rfl)
theorem m_11_17 : Cond.instantiable RX1 6 ∈ WALL := wi_11 _ (List.mem_of_getElem? (i := 17) rfl)
theorem m_11_18 : Cond.initialized RX1 ∈ WALL := wi_11 _ (List.mem_of_getElem? (i := 18) rfl)
theorem m_11_19 : Cond.methodLink RX4 85 yX4_requirePlace ∈ WALL := wi_11 _ (List.mem_of_getElem? (i := 19) rfl)
theorem m_11_20 : Cond.static yX4_requirePlace ∈ WALL := wi_11 _ (List.mem_of_getElem? (i := 20) rfl)
theorem m_11_21 : Cond.code yX4_requirePlace cX4_requirePlace 2 none ∈ WALL := wi_11 _ (List.mem_of_getElem? (i := 21) rfl)
theorem m_11_22 : Cond.methodLink RX4 93 yX1_init ∈ WALL := wi_11 _ (List.mem_of_getElem? (i := 22) rfl)
theorem m_11_23 : Cond.instanceMethod yX1_init ∈ WALL := wi_11 _ (List.mem_of_getElem? (i := 23) rfl)
theorem m_11_24 : Cond.code yX1_init cX1_init 9 none ∈ WALL := wi_11 _ (List.mem_of_getElem? (i := 24) rfl)
theorem wi_12 : ∀ w ∈ wa_12, w ∈ WALL := fun _ h => List.mem_append_right _ (List.mem_append_right _ (List.mem_append_right _ (List.mem_append_right _ (List.mem_append_right _ (List.mem_append_right _ (List.mem_append_right _ (List.mem_append_right _ (List.mem_append_right _ (List.mem_append_right _ (List.mem_append_right _ (List.mem_append_right _ (List.mem_append_left _ (h)))))))))))))
theorem m_12_0 : Cond.methodLink RX1 3 objectInit ∈ WALL := wi_12 _ (List.mem_of_getElem? (i := 0) rfl)
theorem m_12_1 : Cond.fieldLink RX1 9 "LampRhythms$Lamp" "begins" "I" ∈ WALL := wi_12 _ (List.mem_of_getElem? (i := 1) rfl)
theorem m_12_2 : Cond.fieldLink RX1 15 "LampRhythms$Lamp" "failed" "Z" ∈ WALL := wi_12 _ (List.mem_of_getElem? (i := 2) rfl)
theorem m_12_3 : Cond.fieldLink RX1 23 "LampRhythms$Lamp" "x" "I" ∈ WALL := wi_12 _ (List.mem_of_getElem? (i := 3) rfl)
theorem m_12_4 : Cond.fieldLink RX1 26 "LampRhythms$Lamp" "y" "I" ∈ WALL := wi_12 _ (List.mem_of_getElem? (i := 4) rfl)
theorem m_12_5 : Cond.fieldLink RX1 29 "LampRhythms$Lamp" "sight" "[I" ∈ WALL := wi_12 _ (List.mem_of_getElem? (i := 5) rfl)
theorem m_12_6 : Cond.fieldLink RX1 33 "LampRhythms$Lamp" "pattern" "I" ∈ WALL := wi_12 _ (List.mem_of_getElem? (i := 6) rfl)
theorem m_12_7 : Cond.methodLink RX1 19 yX1_isWithin ∈ WALL := wi_12 _ (List.mem_of_getElem? (i := 7) rfl)
theorem m_12_8 : Cond.static yX1_isWithin ∈ WALL := wi_12 _ (List.mem_of_getElem? (i := 8) rfl)
theorem m_12_9 : Cond.code yX1_isWithin cX1_isWithin 5 (some .boolean) ∈ WALL := wi_12 _ (List.mem_of_getElem? (i := 9) rfl)
theorem m_12_10 : Cond.methodLink RX1 36 Lib.Math.abs.name ∈ WALL := wi_12 _ (List.mem_of_getElem? (i := 10) rfl)
theorem m_12_11 : Cond.static Lib.Math.abs.name ∈ WALL := wi_12 _ (List.mem_of_getElem? (i := 11) rfl)
theorem m_12_12 : Cond.code Lib.Math.abs.name Lib.Math.abs.code 1 (some .int) ∈ WALL := wi_12 _ (List.mem_of_getElem? (i := 12) rfl)
theorem m_12_13 : Cond.methodLink RX1 42 yX1_sectorOf ∈ WALL := wi_12 _ (List.mem_of_getElem? (i := 13) rfl)
theorem m_12_14 : Cond.static yX1_sectorOf ∈ WALL := wi_12 _ (List.mem_of_getElem? (i := 14) rfl)
theorem m_12_15 : Cond.code yX1_sectorOf cX1_sectorOf 5 (some .int) ∈ WALL := wi_12 _ (List.mem_of_getElem? (i := 15) rfl)
theorem m_12_16 : Cond.methodLink RX1 46 yX1_quarterOf ∈ WALL := wi_12 _ (List.mem_of_getElem? (i := 16) rfl)
theorem m_12_17 : Cond.static yX1_quarterOf ∈ WALL := wi_12 _ (List.mem_of_getElem? (i := 17) rfl)
theorem m_12_18 : Cond.code yX1_quarterOf cX1_quarterOf 2 (some .int) ∈ WALL := wi_12 _ (List.mem_of_getElem? (i := 18) rfl)
theorem m_12_19 : Cond.methodLink RX4 96 yX4_tell ∈ WALL := wi_12 _ (List.mem_of_getElem? (i := 19) rfl)
theorem m_12_20 : Cond.instanceMethod yX4_tell ∈ WALL := wi_12 _ (List.mem_of_getElem? (i := 20) rfl)
theorem m_12_21 : Cond.selects RX4 yX4_tell yX4_tell ∈ WALL := wi_12 _ (List.mem_of_getElem? (i := 21) rfl)
theorem m_12_22 : Cond.code yX4_tell cX4_tell 3 (some .int) ∈ WALL := wi_12 _ (List.mem_of_getElem? (i := 22) rfl)
theorem m_12_23 : Cond.classLink RX4 201 RX2 ∈ WALL := wi_12 _ (List.mem_of_getElem? (i := 23) rfl)
theorem m_12_24 : Cond.instantiable RX2 2 ∈ WALL := wi_12 _ (List.mem_of_getElem? (i := 24) rfl)
theorem wi_13 : ∀ w ∈ wa_13, w ∈ WALL := fun _ h => List.mem_append_right _ (List.mem_append_right _ (List.mem_append_right _ (List.mem_append_right _ (List.mem_append_right _ (List.mem_append_right _ (List.mem_append_right _ (List.mem_append_right _ (List.mem_append_right _ (List.mem_append_right _ (List.mem_append_right _ (List.mem_append_right _ (List.mem_append_right _ (List.mem_append_left _ (h))))))))))))))
theorem m_13_0 : Cond.initialized RX2 ∈ WALL := wi_13 _ (List.mem_of_getElem? (i := 0) rfl)
theorem m_13_1 : Cond.fieldLink RX4 110 "LampRhythms$Lamp" "failed" "Z" ∈ WALL := wi_13 _ (List.mem_of_getElem? (i := 1) rfl)
theorem m_13_2 : Cond.fieldLink RX4 104 "LampRhythms$Lamp" "pattern" "I" ∈ WALL := wi_13 _ (List.mem_of_getElem? (i := 2) rfl)
theorem m_13_3 : Cond.methodLink RX4 100 yX4_lampAt ∈ WALL := wi_13 _ (List.mem_of_getElem? (i := 3) rfl)
theorem m_13_4 : Cond.instanceMethod yX4_lampAt ∈ WALL := wi_13 _ (List.mem_of_getElem? (i := 4) rfl)
theorem m_13_5 : Cond.selects RX4 yX4_lampAt yX4_lampAt ∈ WALL := wi_13 _ (List.mem_of_getElem? (i := 5) rfl)
theorem m_13_6 : Cond.code yX4_lampAt cX4_lampAt 2 (some (.object "LampRhythms$Lamp")) ∈ WALL := wi_13 _ (List.mem_of_getElem? (i := 6) rfl)
theorem m_13_7 : Cond.classLink RX4 91 "LampRhythms$Lamp" ∈ WALL := wi_13 _ (List.mem_of_getElem? (i := 7) rfl)
theorem m_13_8 : Cond.methodLink RX4 169 yX4_requireLamp ∈ WALL := wi_13 _ (List.mem_of_getElem? (i := 8) rfl)
theorem m_13_9 : Cond.instanceMethod yX4_requireLamp ∈ WALL := wi_13 _ (List.mem_of_getElem? (i := 9) rfl)
theorem m_13_10 : Cond.selects RX4 yX4_requireLamp yX4_requireLamp ∈ WALL := wi_13 _ (List.mem_of_getElem? (i := 10) rfl)
theorem m_13_11 : Cond.code yX4_requireLamp cX4_requireLamp 2 none ∈ WALL := wi_13 _ (List.mem_of_getElem? (i := 11) rfl)
theorem m_13_12 : Cond.methodLink RX4 203 yX2_init ∈ WALL := wi_13 _ (List.mem_of_getElem? (i := 12) rfl)
theorem m_13_13 : Cond.instanceMethod yX2_init ∈ WALL := wi_13 _ (List.mem_of_getElem? (i := 13) rfl)
theorem m_13_14 : Cond.code yX2_init cX2_init 3 none ∈ WALL := wi_13 _ (List.mem_of_getElem? (i := 14) rfl)
theorem m_13_15 : Cond.methodLink RX2 1 objectInit ∈ WALL := wi_13 _ (List.mem_of_getElem? (i := 15) rfl)
theorem m_13_16 : Cond.fieldLink RX2 7 "LampRhythms$Notice" "lamp" "I" ∈ WALL := wi_13 _ (List.mem_of_getElem? (i := 16) rfl)
theorem m_13_17 : Cond.fieldLink RX2 13 "LampRhythms$Notice" "pattern" "I" ∈ WALL := wi_13 _ (List.mem_of_getElem? (i := 17) rfl)
theorem m_13_18 : Cond.methodLink RL 105 yX5_lamp ∈ WALL := wi_13 _ (List.mem_of_getElem? (i := 18) rfl)
theorem m_13_19 : Cond.instanceMethod yX5_lamp ∈ WALL := wi_13 _ (List.mem_of_getElem? (i := 19) rfl)
theorem m_13_20 : Cond.selects RX5 yX5_lamp yX5_lamp ∈ WALL := wi_13 _ (List.mem_of_getElem? (i := 20) rfl)
theorem m_13_21 : Cond.code yX5_lamp cX5_lamp 7 (some .int) ∈ WALL := wi_13 _ (List.mem_of_getElem? (i := 21) rfl)
theorem m_13_22 : Cond.fieldLink RX5 64 "LampRhythmsModel" "lamps" "I" ∈ WALL := wi_13 _ (List.mem_of_getElem? (i := 22) rfl)
theorem m_13_23 : Cond.methodLink RX5 94 yX5_isPlace ∈ WALL := wi_13 _ (List.mem_of_getElem? (i := 23) rfl)
theorem m_13_24 : Cond.static yX5_isPlace ∈ WALL := wi_13 _ (List.mem_of_getElem? (i := 24) rfl)
theorem wi_14 : ∀ w ∈ wa_14, w ∈ WALL := fun _ h => List.mem_append_right _ (List.mem_append_right _ (List.mem_append_right _ (List.mem_append_right _ (List.mem_append_right _ (List.mem_append_right _ (List.mem_append_right _ (List.mem_append_right _ (List.mem_append_right _ (List.mem_append_right _ (List.mem_append_right _ (List.mem_append_right _ (List.mem_append_right _ (List.mem_append_right _ (List.mem_append_left _ (h)))))))))))))))
theorem m_14_0 : Cond.code yX5_isPlace cX5_isPlace 2 (some .boolean) ∈ WALL := wi_14 _ (List.mem_of_getElem? (i := 0) rfl)
theorem m_14_1 : Cond.methodLink RX5 97 yX5_tells ∈ WALL := wi_14 _ (List.mem_of_getElem? (i := 1) rfl)
theorem m_14_2 : Cond.instanceMethod yX5_tells ∈ WALL := wi_14 _ (List.mem_of_getElem? (i := 2) rfl)
theorem m_14_3 : Cond.selects RX5 yX5_tells yX5_tells ∈ WALL := wi_14 _ (List.mem_of_getElem? (i := 3) rfl)
theorem m_14_4 : Cond.code yX5_tells cX5_tells 2 (some .int) ∈ WALL := wi_14 _ (List.mem_of_getElem? (i := 4) rfl)
theorem m_14_5 : Cond.fieldLink RX5 91 "LampRhythmsModel" "notices" "I" ∈ WALL := wi_14 _ (List.mem_of_getElem? (i := 5) rfl)
theorem m_14_6 : Cond.methodLink RL 106 yL_change ∈ WALL := wi_14 _ (List.mem_of_getElem? (i := 6) rfl)
theorem m_14_7 : Cond.static yL_change ∈ WALL := wi_14 _ (List.mem_of_getElem? (i := 7) rfl)
theorem m_14_8 : Cond.codeWith yL_change cL_change 6 (some .int) [(0, 12, 15, 24), (0, 12, 19, 13)] ∈ WALL := wi_14 _ (List.mem_of_getElem? (i := 8) rfl)
theorem m_14_9 : Cond.methodLink RL 37 yX4_change ∈ WALL := wi_14 _ (List.mem_of_getElem? (i := 9) rfl)
theorem m_14_10 : Cond.instanceMethod yX4_change ∈ WALL := wi_14 _ (List.mem_of_getElem? (i := 10) rfl)
theorem m_14_11 : Cond.selects RX4 yX4_change yX4_change ∈ WALL := wi_14 _ (List.mem_of_getElem? (i := 11) rfl)
theorem m_14_12 : Cond.code yX4_change cX4_change 5 (some .int) ∈ WALL := wi_14 _ (List.mem_of_getElem? (i := 12) rfl)
theorem m_14_13 : Cond.fieldLink RX4 107 "LampRhythms$Lamp" "begins" "I" ∈ WALL := wi_14 _ (List.mem_of_getElem? (i := 13) rfl)
theorem m_14_14 : Cond.methodLink RL 109 yX5_change ∈ WALL := wi_14 _ (List.mem_of_getElem? (i := 14) rfl)
theorem m_14_15 : Cond.instanceMethod yX5_change ∈ WALL := wi_14 _ (List.mem_of_getElem? (i := 15) rfl)
theorem m_14_16 : Cond.selects RX5 yX5_change yX5_change ∈ WALL := wi_14 _ (List.mem_of_getElem? (i := 16) rfl)
theorem m_14_17 : Cond.code yX5_change cX5_change 4 (some .int) ∈ WALL := wi_14 _ (List.mem_of_getElem? (i := 17) rfl)
theorem m_14_18 : Cond.methodLink RX5 100 yX5_isLamp ∈ WALL := wi_14 _ (List.mem_of_getElem? (i := 18) rfl)
theorem m_14_19 : Cond.instanceMethod yX5_isLamp ∈ WALL := wi_14 _ (List.mem_of_getElem? (i := 19) rfl)
theorem m_14_20 : Cond.selects RX5 yX5_isLamp yX5_isLamp ∈ WALL := wi_14 _ (List.mem_of_getElem? (i := 20) rfl)
theorem m_14_21 : Cond.code yX5_isLamp cX5_isLamp 2 (some .boolean) ∈ WALL := wi_14 _ (List.mem_of_getElem? (i := 21) rfl)
theorem m_14_22 : Cond.methodLink RL 110 yL_fail ∈ WALL := wi_14 _ (List.mem_of_getElem? (i := 22) rfl)
theorem m_14_23 : Cond.static yL_fail ∈ WALL := wi_14 _ (List.mem_of_getElem? (i := 23) rfl)
theorem m_14_24 : Cond.codeWith yL_fail cL_fail 5 (some .int) [(0, 10, 13, 24), (0, 10, 17, 15)] ∈ WALL := wi_14 _ (List.mem_of_getElem? (i := 24) rfl)
theorem wi_15 : ∀ w ∈ wa_15, w ∈ WALL := fun _ h => List.mem_append_right _ (List.mem_append_right _ (List.mem_append_right _ (List.mem_append_right _ (List.mem_append_right _ (List.mem_append_right _ (List.mem_append_right _ (List.mem_append_right _ (List.mem_append_right _ (List.mem_append_right _ (List.mem_append_right _ (List.mem_append_right _ (List.mem_append_right _ (List.mem_append_right _ (List.mem_append_right _ (List.mem_append_left _ (h))))))))))))))))
theorem m_15_0 : Cond.methodLink RL 41 yX4_fail ∈ WALL := wi_15 _ (List.mem_of_getElem? (i := 0) rfl)
theorem m_15_1 : Cond.instanceMethod yX4_fail ∈ WALL := wi_15 _ (List.mem_of_getElem? (i := 1) rfl)
theorem m_15_2 : Cond.selects RX4 yX4_fail yX4_fail ∈ WALL := wi_15 _ (List.mem_of_getElem? (i := 2) rfl)
theorem m_15_3 : Cond.code yX4_fail cX4_fail 4 (some .int) ∈ WALL := wi_15 _ (List.mem_of_getElem? (i := 3) rfl)
theorem m_15_4 : Cond.methodLink RL 113 yX5_fail ∈ WALL := wi_15 _ (List.mem_of_getElem? (i := 4) rfl)
theorem m_15_5 : Cond.instanceMethod yX5_fail ∈ WALL := wi_15 _ (List.mem_of_getElem? (i := 5) rfl)
theorem m_15_6 : Cond.selects RX5 yX5_fail yX5_fail ∈ WALL := wi_15 _ (List.mem_of_getElem? (i := 6) rfl)
theorem m_15_7 : Cond.code yX5_fail cX5_fail 3 (some .int) ∈ WALL := wi_15 _ (List.mem_of_getElem? (i := 7) rfl)
theorem m_15_8 : Cond.methodLink RL 114 yL_shines ∈ WALL := wi_15 _ (List.mem_of_getElem? (i := 8) rfl)
theorem m_15_9 : Cond.static yL_shines ∈ WALL := wi_15 _ (List.mem_of_getElem? (i := 9) rfl)
theorem m_15_10 : Cond.codeWith yL_shines cL_shines 5 (some .int) [(0, 17, 20, 24), (0, 17, 24, 13)] ∈ WALL := wi_15 _ (List.mem_of_getElem? (i := 10) rfl)
theorem m_15_11 : Cond.methodLink RL 45 yX4_shines ∈ WALL := wi_15 _ (List.mem_of_getElem? (i := 11) rfl)
theorem m_15_12 : Cond.instanceMethod yX4_shines ∈ WALL := wi_15 _ (List.mem_of_getElem? (i := 12) rfl)
theorem m_15_13 : Cond.selects RX4 yX4_shines yX4_shines ∈ WALL := wi_15 _ (List.mem_of_getElem? (i := 13) rfl)
theorem m_15_14 : Cond.code yX4_shines cX4_shines 4 (some .boolean) ∈ WALL := wi_15 _ (List.mem_of_getElem? (i := 14) rfl)
theorem m_15_15 : Cond.constant RX4 116 (100000) ∈ WALL := wi_15 _ (List.mem_of_getElem? (i := 15) rfl)
theorem m_15_16 : Cond.methodLink RX4 117 yX4_isLit ∈ WALL := wi_15 _ (List.mem_of_getElem? (i := 16) rfl)
theorem m_15_17 : Cond.instanceMethod yX4_isLit ∈ WALL := wi_15 _ (List.mem_of_getElem? (i := 17) rfl)
theorem m_15_18 : Cond.selects RX4 yX4_isLit yX4_isLit ∈ WALL := wi_15 _ (List.mem_of_getElem? (i := 18) rfl)
theorem m_15_19 : Cond.code yX4_isLit cX4_isLit 3 (some .boolean) ∈ WALL := wi_15 _ (List.mem_of_getElem? (i := 19) rfl)
theorem m_15_20 : Cond.methodLink RX4 197 yX3_isLight ∈ WALL := wi_15 _ (List.mem_of_getElem? (i := 20) rfl)
theorem m_15_21 : Cond.methodLink RL 116 yX5_shines ∈ WALL := wi_15 _ (List.mem_of_getElem? (i := 21) rfl)
theorem m_15_22 : Cond.instanceMethod yX5_shines ∈ WALL := wi_15 _ (List.mem_of_getElem? (i := 22) rfl)
theorem m_15_23 : Cond.selects RX5 yX5_shines yX5_shines ∈ WALL := wi_15 _ (List.mem_of_getElem? (i := 23) rfl)
theorem m_15_24 : Cond.code yX5_shines cX5_shines 3 (some .boolean) ∈ WALL := wi_15 _ (List.mem_of_getElem? (i := 24) rfl)
theorem wi_16 : ∀ w ∈ wa_16, w ∈ WALL := fun _ h => List.mem_append_right _ (List.mem_append_right _ (List.mem_append_right _ (List.mem_append_right _ (List.mem_append_right _ (List.mem_append_right _ (List.mem_append_right _ (List.mem_append_right _ (List.mem_append_right _ (List.mem_append_right _ (List.mem_append_right _ (List.mem_append_right _ (List.mem_append_right _ (List.mem_append_right _ (List.mem_append_right _ (List.mem_append_right _ (List.mem_append_left _ (h)))))))))))))))))
theorem m_16_0 : Cond.constant RX5 103 (100000) ∈ WALL := wi_16 _ (List.mem_of_getElem? (i := 0) rfl)
theorem m_16_1 : Cond.methodLink RX5 104 yX5_isOn ∈ WALL := wi_16 _ (List.mem_of_getElem? (i := 1) rfl)
theorem m_16_2 : Cond.instanceMethod yX5_isOn ∈ WALL := wi_16 _ (List.mem_of_getElem? (i := 2) rfl)
theorem m_16_3 : Cond.selects RX5 yX5_isOn yX5_isOn ∈ WALL := wi_16 _ (List.mem_of_getElem? (i := 3) rfl)
theorem m_16_4 : Cond.code yX5_isOn cX5_isOn 3 (some .boolean) ∈ WALL := wi_16 _ (List.mem_of_getElem? (i := 4) rfl)
theorem m_16_5 : Cond.methodLink RL 117 yL_sector ∈ WALL := wi_16 _ (List.mem_of_getElem? (i := 5) rfl)
theorem m_16_6 : Cond.static yL_sector ∈ WALL := wi_16 _ (List.mem_of_getElem? (i := 6) rfl)
theorem m_16_7 : Cond.codeWith yL_sector cL_sector 6 (some .int) [(0, 12, 15, 24), (0, 12, 19, 13)] ∈ WALL := wi_16 _ (List.mem_of_getElem? (i := 7) rfl)
theorem m_16_8 : Cond.methodLink RL 48 yX4_sector ∈ WALL := wi_16 _ (List.mem_of_getElem? (i := 8) rfl)
theorem m_16_9 : Cond.instanceMethod yX4_sector ∈ WALL := wi_16 _ (List.mem_of_getElem? (i := 9) rfl)
theorem m_16_10 : Cond.selects RX4 yX4_sector yX4_sector ∈ WALL := wi_16 _ (List.mem_of_getElem? (i := 10) rfl)
theorem m_16_11 : Cond.code yX4_sector cX4_sector 5 (some .int) ∈ WALL := wi_16 _ (List.mem_of_getElem? (i := 11) rfl)
theorem m_16_12 : Cond.fieldLink RX4 121 "LampRhythms$Lamp" "x" "I" ∈ WALL := wi_16 _ (List.mem_of_getElem? (i := 12) rfl)
theorem m_16_13 : Cond.fieldLink RX4 124 "LampRhythms$Lamp" "y" "I" ∈ WALL := wi_16 _ (List.mem_of_getElem? (i := 13) rfl)
theorem m_16_14 : Cond.methodLink RX4 127 yX1_sectorOf ∈ WALL := wi_16 _ (List.mem_of_getElem? (i := 14) rfl)
theorem m_16_15 : Cond.methodLink RL 119 yX5_sector ∈ WALL := wi_16 _ (List.mem_of_getElem? (i := 15) rfl)
theorem m_16_16 : Cond.instanceMethod yX5_sector ∈ WALL := wi_16 _ (List.mem_of_getElem? (i := 16) rfl)
theorem m_16_17 : Cond.selects RX5 yX5_sector yX5_sector ∈ WALL := wi_16 _ (List.mem_of_getElem? (i := 17) rfl)
theorem m_16_18 : Cond.code yX5_sector cX5_sector 4 (some .int) ∈ WALL := wi_16 _ (List.mem_of_getElem? (i := 18) rfl)
theorem m_16_19 : Cond.methodLink RX5 111 yX5_asks ∈ WALL := wi_16 _ (List.mem_of_getElem? (i := 19) rfl)
theorem m_16_20 : Cond.instanceMethod yX5_asks ∈ WALL := wi_16 _ (List.mem_of_getElem? (i := 20) rfl)
theorem m_16_21 : Cond.selects RX5 yX5_asks yX5_asks ∈ WALL := wi_16 _ (List.mem_of_getElem? (i := 21) rfl)
theorem m_16_22 : Cond.code yX5_asks cX5_asks 4 (some .boolean) ∈ WALL := wi_16 _ (List.mem_of_getElem? (i := 22) rfl)
theorem m_16_23 : Cond.methodLink RX5 107 yX5_sectorOf ∈ WALL := wi_16 _ (List.mem_of_getElem? (i := 23) rfl)
theorem m_16_24 : Cond.instanceMethod yX5_sectorOf ∈ WALL := wi_16 _ (List.mem_of_getElem? (i := 24) rfl)
theorem wi_17 : ∀ w ∈ wa_17, w ∈ WALL := fun _ h => List.mem_append_right _ (List.mem_append_right _ (List.mem_append_right _ (List.mem_append_right _ (List.mem_append_right _ (List.mem_append_right _ (List.mem_append_right _ (List.mem_append_right _ (List.mem_append_right _ (List.mem_append_right _ (List.mem_append_right _ (List.mem_append_right _ (List.mem_append_right _ (List.mem_append_right _ (List.mem_append_right _ (List.mem_append_right _ (List.mem_append_right _ (List.mem_append_left _ (h))))))))))))))))))
theorem m_17_0 : Cond.selects RX5 yX5_sectorOf yX5_sectorOf ∈ WALL := wi_17 _ (List.mem_of_getElem? (i := 0) rfl)
theorem m_17_1 : Cond.code yX5_sectorOf cX5_sectorOf 10 (some .int) ∈ WALL := wi_17 _ (List.mem_of_getElem? (i := 1) rfl)
theorem m_17_2 : Cond.methodLink RL 120 yL_isSeen ∈ WALL := wi_17 _ (List.mem_of_getElem? (i := 2) rfl)
theorem m_17_3 : Cond.static yL_isSeen ∈ WALL := wi_17 _ (List.mem_of_getElem? (i := 3) rfl)
theorem m_17_4 : Cond.codeWith yL_isSeen cL_isSeen 6 (some .int) [(0, 19, 22, 24), (0, 19, 26, 13)] ∈ WALL := wi_17 _ (List.mem_of_getElem? (i := 4) rfl)
theorem m_17_5 : Cond.methodLink RL 51 yX4_isSeen ∈ WALL := wi_17 _ (List.mem_of_getElem? (i := 5) rfl)
theorem m_17_6 : Cond.instanceMethod yX4_isSeen ∈ WALL := wi_17 _ (List.mem_of_getElem? (i := 6) rfl)
theorem m_17_7 : Cond.selects RX4 yX4_isSeen yX4_isSeen ∈ WALL := wi_17 _ (List.mem_of_getElem? (i := 7) rfl)
theorem m_17_8 : Cond.code yX4_isSeen cX4_isSeen 5 (some .boolean) ∈ WALL := wi_17 _ (List.mem_of_getElem? (i := 8) rfl)
theorem m_17_9 : Cond.methodLink RX4 131 yX1_canBeSeenFrom ∈ WALL := wi_17 _ (List.mem_of_getElem? (i := 9) rfl)
theorem m_17_10 : Cond.instanceMethod yX1_canBeSeenFrom ∈ WALL := wi_17 _ (List.mem_of_getElem? (i := 10) rfl)
theorem m_17_11 : Cond.selects RX1 yX1_canBeSeenFrom yX1_canBeSeenFrom ∈ WALL := wi_17 _ (List.mem_of_getElem? (i := 11) rfl)
theorem m_17_12 : Cond.code yX1_canBeSeenFrom cX1_canBeSeenFrom 3 (some .boolean) ∈ WALL := wi_17 _ (List.mem_of_getElem? (i := 12) rfl)
theorem m_17_13 : Cond.methodLink RL 122 yX5_isSeen ∈ WALL := wi_17 _ (List.mem_of_getElem? (i := 13) rfl)
theorem m_17_14 : Cond.instanceMethod yX5_isSeen ∈ WALL := wi_17 _ (List.mem_of_getElem? (i := 14) rfl)
theorem m_17_15 : Cond.selects RX5 yX5_isSeen yX5_isSeen ∈ WALL := wi_17 _ (List.mem_of_getElem? (i := 15) rfl)
theorem m_17_16 : Cond.code yX5_isSeen cX5_isSeen 4 (some .boolean) ∈ WALL := wi_17 _ (List.mem_of_getElem? (i := 16) rfl)
theorem m_17_17 : Cond.methodLink RX5 114 yX5_sees ∈ WALL := wi_17 _ (List.mem_of_getElem? (i := 17) rfl)
theorem m_17_18 : Cond.instanceMethod yX5_sees ∈ WALL := wi_17 _ (List.mem_of_getElem? (i := 18) rfl)
theorem m_17_19 : Cond.selects RX5 yX5_sees yX5_sees ∈ WALL := wi_17 _ (List.mem_of_getElem? (i := 19) rfl)
theorem m_17_20 : Cond.code yX5_sees cX5_sees 8 (some .boolean) ∈ WALL := wi_17 _ (List.mem_of_getElem? (i := 20) rfl)
theorem m_17_21 : Cond.methodLink RL 123 yL_common ∈ WALL := wi_17 _ (List.mem_of_getElem? (i := 21) rfl)
theorem m_17_22 : Cond.static yL_common ∈ WALL := wi_17 _ (List.mem_of_getElem? (i := 22) rfl)
theorem m_17_23 : Cond.codeWith yL_common cL_common 5 (some .int) [(0, 10, 13, 24)] ∈ WALL := wi_17 _ (List.mem_of_getElem? (i := 23) rfl)
theorem m_17_24 : Cond.methodLink RL 55 yX4_common ∈ WALL := wi_17 _ (List.mem_of_getElem? (i := 24) rfl)
theorem wi_18 : ∀ w ∈ wa_18, w ∈ WALL := fun _ h => List.mem_append_right _ (List.mem_append_right _ (List.mem_append_right _ (List.mem_append_right _ (List.mem_append_right _ (List.mem_append_right _ (List.mem_append_right _ (List.mem_append_right _ (List.mem_append_right _ (List.mem_append_right _ (List.mem_append_right _ (List.mem_append_right _ (List.mem_append_right _ (List.mem_append_right _ (List.mem_append_right _ (List.mem_append_right _ (List.mem_append_right _ (List.mem_append_right _ (List.mem_append_left _ (h)))))))))))))))))))
theorem m_18_0 : Cond.instanceMethod yX4_common ∈ WALL := wi_18 _ (List.mem_of_getElem? (i := 0) rfl)
theorem m_18_1 : Cond.selects RX4 yX4_common yX4_common ∈ WALL := wi_18 _ (List.mem_of_getElem? (i := 1) rfl)
theorem m_18_2 : Cond.code yX4_common cX4_common 3 (some .int) ∈ WALL := wi_18 _ (List.mem_of_getElem? (i := 2) rfl)
theorem m_18_3 : Cond.methodLink RX4 135 yX1_placesSharedWith ∈ WALL := wi_18 _ (List.mem_of_getElem? (i := 3) rfl)
theorem m_18_4 : Cond.instanceMethod yX1_placesSharedWith ∈ WALL := wi_18 _ (List.mem_of_getElem? (i := 4) rfl)
theorem m_18_5 : Cond.selects RX1 yX1_placesSharedWith yX1_placesSharedWith ∈ WALL := wi_18 _ (List.mem_of_getElem? (i := 5) rfl)
theorem m_18_6 : Cond.code yX1_placesSharedWith cX1_placesSharedWith 4 (some .int) ∈ WALL := wi_18 _ (List.mem_of_getElem? (i := 6) rfl)
theorem m_18_7 : Cond.methodLink RX1 49 yJ6_bitCount_0f7a4 ∈ WALL := wi_18 _ (List.mem_of_getElem? (i := 7) rfl)
theorem m_18_8 : Cond.static yJ6_bitCount_0f7a4 ∈ WALL := wi_18 _ (List.mem_of_getElem? (i := 8) rfl)
theorem m_18_9 : Cond.initialized RJ6 ∈ WALL := wi_18 _ (List.mem_of_getElem? (i := 9) rfl)
theorem m_18_10 : Cond.code yJ6_bitCount_0f7a4 cJ6_bitCount_0f7a4 1 (some .int) ∈ WALL := wi_18 _ (List.mem_of_getElem? (i := 10) rfl)
theorem m_18_11 : Cond.constant RJ6 265 (1431655765) ∈ WALL := wi_18 _ (List.mem_of_getElem? (i := 11) rfl)
theorem m_18_12 : Cond.constant RJ6 266 (858993459) ∈ WALL := wi_18 _ (List.mem_of_getElem? (i := 12) rfl)
theorem m_18_13 : Cond.constant RJ6 267 (252645135) ∈ WALL := wi_18 _ (List.mem_of_getElem? (i := 13) rfl)
theorem m_18_14 : Cond.methodLink RL 125 yX5_common ∈ WALL := wi_18 _ (List.mem_of_getElem? (i := 14) rfl)
theorem m_18_15 : Cond.instanceMethod yX5_common ∈ WALL := wi_18 _ (List.mem_of_getElem? (i := 15) rfl)
theorem m_18_16 : Cond.selects RX5 yX5_common yX5_common ∈ WALL := wi_18 _ (List.mem_of_getElem? (i := 16) rfl)
theorem m_18_17 : Cond.code yX5_common cX5_common 3 (some .int) ∈ WALL := wi_18 _ (List.mem_of_getElem? (i := 17) rfl)
theorem m_18_18 : Cond.methodLink RX5 117 yX5_both ∈ WALL := wi_18 _ (List.mem_of_getElem? (i := 18) rfl)
theorem m_18_19 : Cond.instanceMethod yX5_both ∈ WALL := wi_18 _ (List.mem_of_getElem? (i := 19) rfl)
theorem m_18_20 : Cond.selects RX5 yX5_both yX5_both ∈ WALL := wi_18 _ (List.mem_of_getElem? (i := 20) rfl)
theorem m_18_21 : Cond.code yX5_both cX5_both 5 (some .int) ∈ WALL := wi_18 _ (List.mem_of_getElem? (i := 21) rfl)
theorem m_18_22 : Cond.methodLink RL 126 yX4_clashes ∈ WALL := wi_18 _ (List.mem_of_getElem? (i := 22) rfl)
theorem m_18_23 : Cond.instanceMethod yX4_clashes ∈ WALL := wi_18 _ (List.mem_of_getElem? (i := 23) rfl)
theorem m_18_24 : Cond.selects RX4 yX4_clashes yX4_clashes ∈ WALL := wi_18 _ (List.mem_of_getElem? (i := 24) rfl)
theorem wi_19 : ∀ w ∈ wa_19, w ∈ WALL := fun _ h => List.mem_append_right _ (List.mem_append_right _ (List.mem_append_right _ (List.mem_append_right _ (List.mem_append_right _ (List.mem_append_right _ (List.mem_append_right _ (List.mem_append_right _ (List.mem_append_right _ (List.mem_append_right _ (List.mem_append_right _ (List.mem_append_right _ (List.mem_append_right _ (List.mem_append_right _ (List.mem_append_right _ (List.mem_append_right _ (List.mem_append_right _ (List.mem_append_right _ (List.mem_append_right _ (List.mem_append_left _ (h))))))))))))))))))))
theorem m_19_0 : Cond.code yX4_clashes cX4_clashes 4 (some .int) ∈ WALL := wi_19 _ (List.mem_of_getElem? (i := 0) rfl)
theorem m_19_1 : Cond.methodLink RX4 143 yX4_clash ∈ WALL := wi_19 _ (List.mem_of_getElem? (i := 1) rfl)
theorem m_19_2 : Cond.instanceMethod yX4_clash ∈ WALL := wi_19 _ (List.mem_of_getElem? (i := 2) rfl)
theorem m_19_3 : Cond.selects RX4 yX4_clash yX4_clash ∈ WALL := wi_19 _ (List.mem_of_getElem? (i := 3) rfl)
theorem m_19_4 : Cond.code yX4_clash cX4_clash 3 (some .boolean) ∈ WALL := wi_19 _ (List.mem_of_getElem? (i := 4) rfl)
theorem m_19_5 : Cond.methodLink RL 129 yX5_clashes ∈ WALL := wi_19 _ (List.mem_of_getElem? (i := 5) rfl)
theorem m_19_6 : Cond.instanceMethod yX5_clashes ∈ WALL := wi_19 _ (List.mem_of_getElem? (i := 6) rfl)
theorem m_19_7 : Cond.selects RX5 yX5_clashes yX5_clashes ∈ WALL := wi_19 _ (List.mem_of_getElem? (i := 7) rfl)
theorem m_19_8 : Cond.code yX5_clashes cX5_clashes 4 (some .int) ∈ WALL := wi_19 _ (List.mem_of_getElem? (i := 8) rfl)
theorem m_19_9 : Cond.methodLink RL 130 yX4_notices ∈ WALL := wi_19 _ (List.mem_of_getElem? (i := 9) rfl)
theorem m_19_10 : Cond.instanceMethod yX4_notices ∈ WALL := wi_19 _ (List.mem_of_getElem? (i := 10) rfl)
theorem m_19_11 : Cond.selects RX4 yX4_notices yX4_notices ∈ WALL := wi_19 _ (List.mem_of_getElem? (i := 11) rfl)
theorem m_19_12 : Cond.code yX4_notices cX4_notices 1 (some .int) ∈ WALL := wi_19 _ (List.mem_of_getElem? (i := 12) rfl)
theorem m_19_13 : Cond.methodLink RL 133 yX5_notices ∈ WALL := wi_19 _ (List.mem_of_getElem? (i := 13) rfl)
theorem m_19_14 : Cond.instanceMethod yX5_notices ∈ WALL := wi_19 _ (List.mem_of_getElem? (i := 14) rfl)
theorem m_19_15 : Cond.selects RX5 yX5_notices yX5_notices ∈ WALL := wi_19 _ (List.mem_of_getElem? (i := 15) rfl)
theorem m_19_16 : Cond.code yX5_notices cX5_notices 1 (some .int) ∈ WALL := wi_19 _ (List.mem_of_getElem? (i := 16) rfl)
theorem m_19_17 : Cond.methodLink RL 134 yL_print ∈ WALL := wi_19 _ (List.mem_of_getElem? (i := 17) rfl)
theorem m_19_18 : Cond.static yL_print ∈ WALL := wi_19 _ (List.mem_of_getElem? (i := 18) rfl)
theorem m_19_19 : Cond.codeWith yL_print cL_print 3 (some .int) [(0, 8, 11, 15)] ∈ WALL := wi_19 _ (List.mem_of_getElem? (i := 19) rfl)
theorem m_19_20 : Cond.methodLink RL 59 yX4_print ∈ WALL := wi_19 _ (List.mem_of_getElem? (i := 20) rfl)
theorem m_19_21 : Cond.instanceMethod yX4_print ∈ WALL := wi_19 _ (List.mem_of_getElem? (i := 21) rfl)
theorem m_19_22 : Cond.selects RX4 yX4_print yX4_print ∈ WALL := wi_19 _ (List.mem_of_getElem? (i := 22) rfl)
theorem m_19_23 : Cond.code yX4_print cX4_print 2 (some .int) ∈ WALL := wi_19 _ (List.mem_of_getElem? (i := 23) rfl)
theorem m_19_24 : Cond.classLink RX4 149 RX0 ∈ WALL := wi_19 _ (List.mem_of_getElem? (i := 24) rfl)
theorem wi_20 : ∀ w ∈ wa_20, w ∈ WALL := fun _ h => List.mem_append_right _ (List.mem_append_right _ (List.mem_append_right _ (List.mem_append_right _ (List.mem_append_right _ (List.mem_append_right _ (List.mem_append_right _ (List.mem_append_right _ (List.mem_append_right _ (List.mem_append_right _ (List.mem_append_right _ (List.mem_append_right _ (List.mem_append_right _ (List.mem_append_right _ (List.mem_append_right _ (List.mem_append_right _ (List.mem_append_right _ (List.mem_append_right _ (List.mem_append_right _ (List.mem_append_right _ (List.mem_append_left _ (h)))))))))))))))))))))
theorem m_20_0 : Cond.instantiable RX0 2 ∈ WALL := wi_20 _ (List.mem_of_getElem? (i := 0) rfl)
theorem m_20_1 : Cond.initialized RX0 ∈ WALL := wi_20 _ (List.mem_of_getElem? (i := 1) rfl)
theorem m_20_2 : Cond.methodLink RX4 151 yX0_init ∈ WALL := wi_20 _ (List.mem_of_getElem? (i := 2) rfl)
theorem m_20_3 : Cond.instanceMethod yX0_init ∈ WALL := wi_20 _ (List.mem_of_getElem? (i := 3) rfl)
theorem m_20_4 : Cond.code yX0_init cX0_init 1 none ∈ WALL := wi_20 _ (List.mem_of_getElem? (i := 4) rfl)
theorem m_20_5 : Cond.methodLink RX0 3 objectInit ∈ WALL := wi_20 _ (List.mem_of_getElem? (i := 5) rfl)
theorem m_20_6 : Cond.fieldLink RX0 9 "LampRhythms$Chart" "patterns" "[I" ∈ WALL := wi_20 _ (List.mem_of_getElem? (i := 6) rfl)
theorem m_20_7 : Cond.fieldLink RX0 15 "LampRhythms$Chart" "notices" "I" ∈ WALL := wi_20 _ (List.mem_of_getElem? (i := 7) rfl)
theorem m_20_8 : Cond.methodLink RX0 19 yJ7_fill_53178 ∈ WALL := wi_20 _ (List.mem_of_getElem? (i := 8) rfl)
theorem m_20_9 : Cond.static yJ7_fill_53178 ∈ WALL := wi_20 _ (List.mem_of_getElem? (i := 9) rfl)
theorem m_20_10 : Cond.code yJ7_fill_53178 cJ7_fill_53178 4 none ∈ WALL := wi_20 _ (List.mem_of_getElem? (i := 10) rfl)
theorem m_20_11 : Cond.methodLink RX4 152 yX4_putIn ∈ WALL := wi_20 _ (List.mem_of_getElem? (i := 11) rfl)
theorem m_20_12 : Cond.instanceMethod yX4_putIn ∈ WALL := wi_20 _ (List.mem_of_getElem? (i := 12) rfl)
theorem m_20_13 : Cond.selects RX4 yX4_putIn yX4_putIn ∈ WALL := wi_20 _ (List.mem_of_getElem? (i := 13) rfl)
theorem m_20_14 : Cond.code yX4_putIn cX4_putIn 5 none ∈ WALL := wi_20 _ (List.mem_of_getElem? (i := 14) rfl)
theorem m_20_15 : Cond.fieldLink RX4 205 "LampRhythms$Chart" "notices" "I" ∈ WALL := wi_20 _ (List.mem_of_getElem? (i := 15) rfl)
theorem m_20_16 : Cond.methodLink RX4 164 Lib.Math.min.name ∈ WALL := wi_20 _ (List.mem_of_getElem? (i := 16) rfl)
theorem m_20_17 : Cond.classLink RX4 201 "LampRhythms$Notice" ∈ WALL := wi_20 _ (List.mem_of_getElem? (i := 17) rfl)
theorem m_20_18 : Cond.methodLink RX4 208 yX0_putIn ∈ WALL := wi_20 _ (List.mem_of_getElem? (i := 18) rfl)
theorem m_20_19 : Cond.instanceMethod yX0_putIn ∈ WALL := wi_20 _ (List.mem_of_getElem? (i := 19) rfl)
theorem m_20_20 : Cond.selects RX0 yX0_putIn yX0_putIn ∈ WALL := wi_20 _ (List.mem_of_getElem? (i := 20) rfl)
theorem m_20_21 : Cond.code yX0_putIn cX0_putIn 2 none ∈ WALL := wi_20 _ (List.mem_of_getElem? (i := 21) rfl)
theorem m_20_22 : Cond.fieldLink RX0 25 "LampRhythms$Notice" "lamp" "I" ∈ WALL := wi_20 _ (List.mem_of_getElem? (i := 22) rfl)
theorem m_20_23 : Cond.fieldLink RX0 30 "LampRhythms$Notice" "pattern" "I" ∈ WALL := wi_20 _ (List.mem_of_getElem? (i := 23) rfl)
theorem m_20_24 : Cond.methodLink RL 136 yX5_print ∈ WALL := wi_20 _ (List.mem_of_getElem? (i := 24) rfl)
theorem wi_21 : ∀ w ∈ wa_21, w ∈ WALL := fun _ h => List.mem_append_right _ (List.mem_append_right _ (List.mem_append_right _ (List.mem_append_right _ (List.mem_append_right _ (List.mem_append_right _ (List.mem_append_right _ (List.mem_append_right _ (List.mem_append_right _ (List.mem_append_right _ (List.mem_append_right _ (List.mem_append_right _ (List.mem_append_right _ (List.mem_append_right _ (List.mem_append_right _ (List.mem_append_right _ (List.mem_append_right _ (List.mem_append_right _ (List.mem_append_right _ (List.mem_append_right _ (List.mem_append_right _ (List.mem_append_left _ (h))))))))))))))))))))))
theorem m_21_0 : Cond.instanceMethod yX5_print ∈ WALL := wi_21 _ (List.mem_of_getElem? (i := 0) rfl)
theorem m_21_1 : Cond.selects RX5 yX5_print yX5_print ∈ WALL := wi_21 _ (List.mem_of_getElem? (i := 1) rfl)
theorem m_21_2 : Cond.code yX5_print cX5_print 2 (some .int) ∈ WALL := wi_21 _ (List.mem_of_getElem? (i := 2) rfl)
theorem m_21_3 : Cond.fieldLink RX5 67 "LampRhythmsModel" "charts" "I" ∈ WALL := wi_21 _ (List.mem_of_getElem? (i := 3) rfl)
theorem m_21_4 : Cond.methodLink RX5 121 yX5_puts ∈ WALL := wi_21 _ (List.mem_of_getElem? (i := 4) rfl)
theorem m_21_5 : Cond.instanceMethod yX5_puts ∈ WALL := wi_21 _ (List.mem_of_getElem? (i := 5) rfl)
theorem m_21_6 : Cond.selects RX5 yX5_puts yX5_puts ∈ WALL := wi_21 _ (List.mem_of_getElem? (i := 6) rfl)
theorem m_21_7 : Cond.code yX5_puts cX5_puts 5 (some .int) ∈ WALL := wi_21 _ (List.mem_of_getElem? (i := 7) rfl)
theorem m_21_8 : Cond.methodLink RL 137 yL_correct ∈ WALL := wi_21 _ (List.mem_of_getElem? (i := 8) rfl)
theorem m_21_9 : Cond.static yL_correct ∈ WALL := wi_21 _ (List.mem_of_getElem? (i := 9) rfl)
theorem m_21_10 : Cond.codeWith yL_correct cL_correct 5 (some .int) [(0, 10, 13, 24), (0, 10, 17, 13)] ∈ WALL := wi_21 _ (List.mem_of_getElem? (i := 10) rfl)
theorem m_21_11 : Cond.methodLink RL 62 yX4_correct ∈ WALL := wi_21 _ (List.mem_of_getElem? (i := 11) rfl)
theorem m_21_12 : Cond.instanceMethod yX4_correct ∈ WALL := wi_21 _ (List.mem_of_getElem? (i := 12) rfl)
theorem m_21_13 : Cond.selects RX4 yX4_correct yX4_correct ∈ WALL := wi_21 _ (List.mem_of_getElem? (i := 13) rfl)
theorem m_21_14 : Cond.code yX4_correct cX4_correct 5 (some .int) ∈ WALL := wi_21 _ (List.mem_of_getElem? (i := 14) rfl)
theorem m_21_15 : Cond.methodLink RX4 156 yX4_chartAt ∈ WALL := wi_21 _ (List.mem_of_getElem? (i := 15) rfl)
theorem m_21_16 : Cond.instanceMethod yX4_chartAt ∈ WALL := wi_21 _ (List.mem_of_getElem? (i := 16) rfl)
theorem m_21_17 : Cond.selects RX4 yX4_chartAt yX4_chartAt ∈ WALL := wi_21 _ (List.mem_of_getElem? (i := 17) rfl)
theorem m_21_18 : Cond.code yX4_chartAt cX4_chartAt 2 (some (.object "LampRhythms$Chart")) ∈ WALL := wi_21 _ (List.mem_of_getElem? (i := 18) rfl)
theorem m_21_19 : Cond.classLink RX4 149 "LampRhythms$Chart" ∈ WALL := wi_21 _ (List.mem_of_getElem? (i := 19) rfl)
theorem m_21_20 : Cond.methodLink RX4 160 yX4_lackOf ∈ WALL := wi_21 _ (List.mem_of_getElem? (i := 20) rfl)
theorem m_21_21 : Cond.instanceMethod yX4_lackOf ∈ WALL := wi_21 _ (List.mem_of_getElem? (i := 21) rfl)
theorem m_21_22 : Cond.selects RX4 yX4_lackOf yX4_lackOf ∈ WALL := wi_21 _ (List.mem_of_getElem? (i := 22) rfl)
theorem m_21_23 : Cond.code yX4_lackOf cX4_lackOf 2 (some .int) ∈ WALL := wi_21 _ (List.mem_of_getElem? (i := 23) rfl)
theorem m_21_24 : Cond.methodLink RL 139 yX5_correct ∈ WALL := wi_21 _ (List.mem_of_getElem? (i := 24) rfl)
theorem wi_22 : ∀ w ∈ wa_22, w ∈ WALL := fun _ h => List.mem_append_right _ (List.mem_append_right _ (List.mem_append_right _ (List.mem_append_right _ (List.mem_append_right _ (List.mem_append_right _ (List.mem_append_right _ (List.mem_append_right _ (List.mem_append_right _ (List.mem_append_right _ (List.mem_append_right _ (List.mem_append_right _ (List.mem_append_right _ (List.mem_append_right _ (List.mem_append_right _ (List.mem_append_right _ (List.mem_append_right _ (List.mem_append_right _ (List.mem_append_right _ (List.mem_append_right _ (List.mem_append_right _ (List.mem_append_right _ (List.mem_append_left _ (h)))))))))))))))))))))))
theorem m_22_0 : Cond.instanceMethod yX5_correct ∈ WALL := wi_22 _ (List.mem_of_getElem? (i := 0) rfl)
theorem m_22_1 : Cond.selects RX5 yX5_correct yX5_correct ∈ WALL := wi_22 _ (List.mem_of_getElem? (i := 1) rfl)
theorem m_22_2 : Cond.code yX5_correct cX5_correct 3 (some .int) ∈ WALL := wi_22 _ (List.mem_of_getElem? (i := 2) rfl)
theorem m_22_3 : Cond.methodLink RX5 124 yX5_isChart ∈ WALL := wi_22 _ (List.mem_of_getElem? (i := 3) rfl)
theorem m_22_4 : Cond.instanceMethod yX5_isChart ∈ WALL := wi_22 _ (List.mem_of_getElem? (i := 4) rfl)
theorem m_22_5 : Cond.selects RX5 yX5_isChart yX5_isChart ∈ WALL := wi_22 _ (List.mem_of_getElem? (i := 5) rfl)
theorem m_22_6 : Cond.code yX5_isChart cX5_isChart 2 (some .boolean) ∈ WALL := wi_22 _ (List.mem_of_getElem? (i := 6) rfl)
theorem m_22_7 : Cond.methodLink RL 140 yL_behind ∈ WALL := wi_22 _ (List.mem_of_getElem? (i := 7) rfl)
theorem m_22_8 : Cond.static yL_behind ∈ WALL := wi_22 _ (List.mem_of_getElem? (i := 8) rfl)
theorem m_22_9 : Cond.codeWith yL_behind cL_behind 4 (some .int) [(0, 9, 12, 24)] ∈ WALL := wi_22 _ (List.mem_of_getElem? (i := 9) rfl)
theorem m_22_10 : Cond.methodLink RL 65 yX4_behind ∈ WALL := wi_22 _ (List.mem_of_getElem? (i := 10) rfl)
theorem m_22_11 : Cond.instanceMethod yX4_behind ∈ WALL := wi_22 _ (List.mem_of_getElem? (i := 11) rfl)
theorem m_22_12 : Cond.selects RX4 yX4_behind yX4_behind ∈ WALL := wi_22 _ (List.mem_of_getElem? (i := 12) rfl)
theorem m_22_13 : Cond.code yX4_behind cX4_behind 2 (some .int) ∈ WALL := wi_22 _ (List.mem_of_getElem? (i := 13) rfl)
theorem m_22_14 : Cond.methodLink RL 142 yX5_behind ∈ WALL := wi_22 _ (List.mem_of_getElem? (i := 14) rfl)
theorem m_22_15 : Cond.instanceMethod yX5_behind ∈ WALL := wi_22 _ (List.mem_of_getElem? (i := 15) rfl)
theorem m_22_16 : Cond.selects RX5 yX5_behind yX5_behind ∈ WALL := wi_22 _ (List.mem_of_getElem? (i := 16) rfl)
theorem m_22_17 : Cond.code yX5_behind cX5_behind 2 (some .int) ∈ WALL := wi_22 _ (List.mem_of_getElem? (i := 17) rfl)
theorem m_22_18 : Cond.methodLink RL 143 yL_shown ∈ WALL := wi_22 _ (List.mem_of_getElem? (i := 18) rfl)
theorem m_22_19 : Cond.static yL_shown ∈ WALL := wi_22 _ (List.mem_of_getElem? (i := 19) rfl)
theorem m_22_20 : Cond.codeWith yL_shown cL_shown 5 (some .int) [(0, 10, 13, 24)] ∈ WALL := wi_22 _ (List.mem_of_getElem? (i := 20) rfl)
theorem m_22_21 : Cond.methodLink RL 68 yX4_shown ∈ WALL := wi_22 _ (List.mem_of_getElem? (i := 21) rfl)
theorem m_22_22 : Cond.instanceMethod yX4_shown ∈ WALL := wi_22 _ (List.mem_of_getElem? (i := 22) rfl)
theorem m_22_23 : Cond.selects RX4 yX4_shown yX4_shown ∈ WALL := wi_22 _ (List.mem_of_getElem? (i := 23) rfl)
theorem m_22_24 : Cond.code yX4_shown cX4_shown 4 (some .int) ∈ WALL := wi_22 _ (List.mem_of_getElem? (i := 24) rfl)
theorem wi_23 : ∀ w ∈ wa_23, w ∈ WALL := fun _ h => List.mem_append_right _ (List.mem_append_right _ (List.mem_append_right _ (List.mem_append_right _ (List.mem_append_right _ (List.mem_append_right _ (List.mem_append_right _ (List.mem_append_right _ (List.mem_append_right _ (List.mem_append_right _ (List.mem_append_right _ (List.mem_append_right _ (List.mem_append_right _ (List.mem_append_right _ (List.mem_append_right _ (List.mem_append_right _ (List.mem_append_right _ (List.mem_append_right _ (List.mem_append_right _ (List.mem_append_right _ (List.mem_append_right _ (List.mem_append_right _ (List.mem_append_right _ (List.mem_append_left _ (h))))))))))))))))))))))))
theorem m_23_0 : Cond.methodLink RX4 172 yX0_patternOf ∈ WALL := wi_23 _ (List.mem_of_getElem? (i := 0) rfl)
theorem m_23_1 : Cond.instanceMethod yX0_patternOf ∈ WALL := wi_23 _ (List.mem_of_getElem? (i := 1) rfl)
theorem m_23_2 : Cond.selects RX0 yX0_patternOf yX0_patternOf ∈ WALL := wi_23 _ (List.mem_of_getElem? (i := 2) rfl)
theorem m_23_3 : Cond.code yX0_patternOf cX0_patternOf 2 (some .int) ∈ WALL := wi_23 _ (List.mem_of_getElem? (i := 3) rfl)
theorem m_23_4 : Cond.methodLink RL 145 yX5_shown ∈ WALL := wi_23 _ (List.mem_of_getElem? (i := 4) rfl)
theorem m_23_5 : Cond.instanceMethod yX5_shown ∈ WALL := wi_23 _ (List.mem_of_getElem? (i := 5) rfl)
theorem m_23_6 : Cond.selects RX5 yX5_shown yX5_shown ∈ WALL := wi_23 _ (List.mem_of_getElem? (i := 6) rfl)
theorem m_23_7 : Cond.code yX5_shown cX5_shown 3 (some .int) ∈ WALL := wi_23 _ (List.mem_of_getElem? (i := 7) rfl)
theorem m_23_8 : Cond.methodLink RL 146 yL_taken ∈ WALL := wi_23 _ (List.mem_of_getElem? (i := 8) rfl)
theorem m_23_9 : Cond.static yL_taken ∈ WALL := wi_23 _ (List.mem_of_getElem? (i := 9) rfl)
theorem m_23_10 : Cond.codeWith yL_taken cL_taken 9 (some .int) [(0, 18, 21, 24), (0, 18, 25, 13)] ∈ WALL := wi_23 _ (List.mem_of_getElem? (i := 10) rfl)
theorem m_23_11 : Cond.methodLink RL 71 yX4_taken ∈ WALL := wi_23 _ (List.mem_of_getElem? (i := 11) rfl)
theorem m_23_12 : Cond.instanceMethod yX4_taken ∈ WALL := wi_23 _ (List.mem_of_getElem? (i := 12) rfl)
theorem m_23_13 : Cond.selects RX4 yX4_taken yX4_taken ∈ WALL := wi_23 _ (List.mem_of_getElem? (i := 13) rfl)
theorem m_23_14 : Cond.code yX4_taken cX4_taken 14 (some .int) ∈ WALL := wi_23 _ (List.mem_of_getElem? (i := 14) rfl)
theorem m_23_15 : Cond.methodLink RX4 175 yX4_lookAt ∈ WALL := wi_23 _ (List.mem_of_getElem? (i := 15) rfl)
theorem m_23_16 : Cond.instanceMethod yX4_lookAt ∈ WALL := wi_23 _ (List.mem_of_getElem? (i := 16) rfl)
theorem m_23_17 : Cond.selects RX4 yX4_lookAt yX4_lookAt ∈ WALL := wi_23 _ (List.mem_of_getElem? (i := 17) rfl)
theorem m_23_18 : Cond.code yX4_lookAt cX4_lookAt 7 (some .long) ∈ WALL := wi_23 _ (List.mem_of_getElem? (i := 18) rfl)
theorem m_23_19 : Cond.methodLink RX4 179 yX3_canLookLike ∈ WALL := wi_23 _ (List.mem_of_getElem? (i := 19) rfl)
theorem m_23_20 : Cond.instanceMethod yX3_canLookLike ∈ WALL := wi_23 _ (List.mem_of_getElem? (i := 20) rfl)
theorem m_23_21 : Cond.selects RX3 yX3_canLookLike yX3_canLookLike ∈ WALL := wi_23 _ (List.mem_of_getElem? (i := 21) rfl)
theorem m_23_22 : Cond.code yX3_canLookLike cX3_canLookLike 5 (some .boolean) ∈ WALL := wi_23 _ (List.mem_of_getElem? (i := 22) rfl)
theorem m_23_23 : Cond.methodLink RX3 43 yX3_looksLike ∈ WALL := wi_23 _ (List.mem_of_getElem? (i := 23) rfl)
theorem m_23_24 : Cond.instanceMethod yX3_looksLike ∈ WALL := wi_23 _ (List.mem_of_getElem? (i := 24) rfl)
theorem wi_24 : ∀ w ∈ wa_24, w ∈ WALL := fun _ h => List.mem_append_right _ (List.mem_append_right _ (List.mem_append_right _ (List.mem_append_right _ (List.mem_append_right _ (List.mem_append_right _ (List.mem_append_right _ (List.mem_append_right _ (List.mem_append_right _ (List.mem_append_right _ (List.mem_append_right _ (List.mem_append_right _ (List.mem_append_right _ (List.mem_append_right _ (List.mem_append_right _ (List.mem_append_right _ (List.mem_append_right _ (List.mem_append_right _ (List.mem_append_right _ (List.mem_append_right _ (List.mem_append_right _ (List.mem_append_right _ (List.mem_append_right _ (List.mem_append_right _ (List.mem_append_left _ (h)))))))))))))))))))))))))
theorem m_24_0 : Cond.selects RX3 yX3_looksLike yX3_looksLike ∈ WALL := wi_24 _ (List.mem_of_getElem? (i := 0) rfl)
theorem m_24_1 : Cond.code yX3_looksLike cX3_looksLike 7 (some .boolean) ∈ WALL := wi_24 _ (List.mem_of_getElem? (i := 1) rfl)
theorem m_24_2 : Cond.methodLink RL 149 yX5_taken ∈ WALL := wi_24 _ (List.mem_of_getElem? (i := 2) rfl)
theorem m_24_3 : Cond.instanceMethod yX5_taken ∈ WALL := wi_24 _ (List.mem_of_getElem? (i := 3) rfl)
theorem m_24_4 : Cond.selects RX5 yX5_taken yX5_taken ∈ WALL := wi_24 _ (List.mem_of_getElem? (i := 4) rfl)
theorem m_24_5 : Cond.code yX5_taken cX5_taken 12 (some .int) ∈ WALL := wi_24 _ (List.mem_of_getElem? (i := 5) rfl)
theorem m_24_6 : Cond.methodLink RX5 127 yX5_could ∈ WALL := wi_24 _ (List.mem_of_getElem? (i := 6) rfl)
theorem m_24_7 : Cond.instanceMethod yX5_could ∈ WALL := wi_24 _ (List.mem_of_getElem? (i := 7) rfl)
theorem m_24_8 : Cond.selects RX5 yX5_could yX5_could ∈ WALL := wi_24 _ (List.mem_of_getElem? (i := 8) rfl)
theorem m_24_9 : Cond.code yX5_could cX5_could 9 (some .boolean) ∈ WALL := wi_24 _ (List.mem_of_getElem? (i := 9) rfl)
theorem wt_0 : ∀ w ∈ wsX40, w ∈ WALL := fun _ h => List.mem_append_right _ (List.mem_append_right _ (List.mem_append_right _ (List.mem_append_right _ (List.mem_append_right _ (List.mem_append_right _ (List.mem_append_right _ (List.mem_append_right _ (List.mem_append_right _ (List.mem_append_right _ (List.mem_append_right _ (List.mem_append_right _ (List.mem_append_right _ (List.mem_append_right _ (List.mem_append_right _ (List.mem_append_right _ (List.mem_append_right _ (List.mem_append_right _ (List.mem_append_right _ (List.mem_append_right _ (List.mem_append_right _ (List.mem_append_right _ (List.mem_append_right _ (List.mem_append_right _ (List.mem_append_right _ (List.mem_append_left _ (h))))))))))))))))))))))))))
theorem wt_1 : ∀ w ∈ wsX50, w ∈ WALL := fun _ h => List.mem_append_right _ (List.mem_append_right _ (List.mem_append_right _ (List.mem_append_right _ (List.mem_append_right _ (List.mem_append_right _ (List.mem_append_right _ (List.mem_append_right _ (List.mem_append_right _ (List.mem_append_right _ (List.mem_append_right _ (List.mem_append_right _ (List.mem_append_right _ (List.mem_append_right _ (List.mem_append_right _ (List.mem_append_right _ (List.mem_append_right _ (List.mem_append_right _ (List.mem_append_right _ (List.mem_append_right _ (List.mem_append_right _ (List.mem_append_right _ (List.mem_append_right _ (List.mem_append_right _ (List.mem_append_right _ (List.mem_append_right _ (List.mem_append_left _ (h)))))))))))))))))))))))))))
theorem wt_2 : ∀ w ∈ wsJx4a65c0, w ∈ WALL := fun _ h => List.mem_append_right _ (List.mem_append_right _ (List.mem_append_right _ (List.mem_append_right _ (List.mem_append_right _ (List.mem_append_right _ (List.mem_append_right _ (List.mem_append_right _ (List.mem_append_right _ (List.mem_append_right _ (List.mem_append_right _ (List.mem_append_right _ (List.mem_append_right _ (List.mem_append_right _ (List.mem_append_right _ (List.mem_append_right _ (List.mem_append_right _ (List.mem_append_right _ (List.mem_append_right _ (List.mem_append_right _ (List.mem_append_right _ (List.mem_append_right _ (List.mem_append_right _ (List.mem_append_right _ (List.mem_append_right _ (List.mem_append_right _ (List.mem_append_right _ (List.mem_append_left _ (h))))))))))))))))))))))))))))
theorem wt_3 : ∀ w ∈ wsX30, w ∈ WALL := fun _ h => List.mem_append_right _ (List.mem_append_right _ (List.mem_append_right _ (List.mem_append_right _ (List.mem_append_right _ (List.mem_append_right _ (List.mem_append_right _ (List.mem_append_right _ (List.mem_append_right _ (List.mem_append_right _ (List.mem_append_right _ (List.mem_append_right _ (List.mem_append_right _ (List.mem_append_right _ (List.mem_append_right _ (List.mem_append_right _ (List.mem_append_right _ (List.mem_append_right _ (List.mem_append_right _ (List.mem_append_right _ (List.mem_append_right _ (List.mem_append_right _ (List.mem_append_right _ (List.mem_append_right _ (List.mem_append_right _ (List.mem_append_right _ (List.mem_append_right _ (List.mem_append_right _ (List.mem_append_left _ (h)))))))))))))))))))))))))))))
theorem wt_4 : ∀ w ∈ wsX10, w ∈ WALL := fun _ h => List.mem_append_right _ (List.mem_append_right _ (List.mem_append_right _ (List.mem_append_right _ (List.mem_append_right _ (List.mem_append_right _ (List.mem_append_right _ (List.mem_append_right _ (List.mem_append_right _ (List.mem_append_right _ (List.mem_append_right _ (List.mem_append_right _ (List.mem_append_right _ (List.mem_append_right _ (List.mem_append_right _ (List.mem_append_right _ (List.mem_append_right _ (List.mem_append_right _ (List.mem_append_right _ (List.mem_append_right _ (List.mem_append_right _ (List.mem_append_right _ (List.mem_append_right _ (List.mem_append_right _ (List.mem_append_right _ (List.mem_append_right _ (List.mem_append_right _ (List.mem_append_right _ (List.mem_append_right _ (List.mem_append_left _ (h))))))))))))))))))))))))))))))
theorem wt_5 : ∀ w ∈ wsX20, w ∈ WALL := fun _ h => List.mem_append_right _ (List.mem_append_right _ (List.mem_append_right _ (List.mem_append_right _ (List.mem_append_right _ (List.mem_append_right _ (List.mem_append_right _ (List.mem_append_right _ (List.mem_append_right _ (List.mem_append_right _ (List.mem_append_right _ (List.mem_append_right _ (List.mem_append_right _ (List.mem_append_right _ (List.mem_append_right _ (List.mem_append_right _ (List.mem_append_right _ (List.mem_append_right _ (List.mem_append_right _ (List.mem_append_right _ (List.mem_append_right _ (List.mem_append_right _ (List.mem_append_right _ (List.mem_append_right _ (List.mem_append_right _ (List.mem_append_right _ (List.mem_append_right _ (List.mem_append_right _ (List.mem_append_right _ (List.mem_append_right _ (List.mem_append_left _ (h)))))))))))))))))))))))))))))))
theorem wt_6 : ∀ w ∈ wsX00, w ∈ WALL := fun _ h => List.mem_append_right _ (List.mem_append_right _ (List.mem_append_right _ (List.mem_append_right _ (List.mem_append_right _ (List.mem_append_right _ (List.mem_append_right _ (List.mem_append_right _ (List.mem_append_right _ (List.mem_append_right _ (List.mem_append_right _ (List.mem_append_right _ (List.mem_append_right _ (List.mem_append_right _ (List.mem_append_right _ (List.mem_append_right _ (List.mem_append_right _ (List.mem_append_right _ (List.mem_append_right _ (List.mem_append_right _ (List.mem_append_right _ (List.mem_append_right _ (List.mem_append_right _ (List.mem_append_right _ (List.mem_append_right _ (List.mem_append_right _ (List.mem_append_right _ (List.mem_append_right _ (List.mem_append_right _ (List.mem_append_right _ (List.mem_append_right _ (List.mem_append_left _ (h))))))))))))))))))))))))))))))))
theorem wt_7 : ∀ w ∈ ((vx_atS RX4 41 "java/lang/IllegalStateException" ["java/lang/RuntimeException", "java/lang/Exception"]).filter goodWord), w ∈ WALL := fun _ h => List.mem_append_right _ (List.mem_append_right _ (List.mem_append_right _ (List.mem_append_right _ (List.mem_append_right _ (List.mem_append_right _ (List.mem_append_right _ (List.mem_append_right _ (List.mem_append_right _ (List.mem_append_right _ (List.mem_append_right _ (List.mem_append_right _ (List.mem_append_right _ (List.mem_append_right _ (List.mem_append_right _ (List.mem_append_right _ (List.mem_append_right _ (List.mem_append_right _ (List.mem_append_right _ (List.mem_append_right _ (List.mem_append_right _ (List.mem_append_right _ (List.mem_append_right _ (List.mem_append_right _ (List.mem_append_right _ (List.mem_append_right _ (List.mem_append_right _ (List.mem_append_right _ (List.mem_append_right _ (List.mem_append_right _ (List.mem_append_right _ (List.mem_append_right _ (List.mem_append_left _ (h)))))))))))))))))))))))))))))))))
theorem wt_8 : ∀ w ∈ ((vx_atS RX4 187 "java/lang/IllegalArgumentException" ["java/lang/RuntimeException", "java/lang/Exception"]).filter goodWord), w ∈ WALL := fun _ h => List.mem_append_right _ (List.mem_append_right _ (List.mem_append_right _ (List.mem_append_right _ (List.mem_append_right _ (List.mem_append_right _ (List.mem_append_right _ (List.mem_append_right _ (List.mem_append_right _ (List.mem_append_right _ (List.mem_append_right _ (List.mem_append_right _ (List.mem_append_right _ (List.mem_append_right _ (List.mem_append_right _ (List.mem_append_right _ (List.mem_append_right _ (List.mem_append_right _ (List.mem_append_right _ (List.mem_append_right _ (List.mem_append_right _ (List.mem_append_right _ (List.mem_append_right _ (List.mem_append_right _ (List.mem_append_right _ (List.mem_append_right _ (List.mem_append_right _ (List.mem_append_right _ (List.mem_append_right _ (List.mem_append_right _ (List.mem_append_right _ (List.mem_append_right _ (List.mem_append_right _ (List.mem_append_left _ (h))))))))))))))))))))))))))))))))))
theorem wt_9 : ∀ w ∈ ((vx_atS RX4 192 "java/lang/IndexOutOfBoundsException" ["java/lang/RuntimeException", "java/lang/Exception"]).filter goodWord), w ∈ WALL := fun _ h => List.mem_append_right _ (List.mem_append_right _ (List.mem_append_right _ (List.mem_append_right _ (List.mem_append_right _ (List.mem_append_right _ (List.mem_append_right _ (List.mem_append_right _ (List.mem_append_right _ (List.mem_append_right _ (List.mem_append_right _ (List.mem_append_right _ (List.mem_append_right _ (List.mem_append_right _ (List.mem_append_right _ (List.mem_append_right _ (List.mem_append_right _ (List.mem_append_right _ (List.mem_append_right _ (List.mem_append_right _ (List.mem_append_right _ (List.mem_append_right _ (List.mem_append_right _ (List.mem_append_right _ (List.mem_append_right _ (List.mem_append_right _ (List.mem_append_right _ (List.mem_append_right _ (List.mem_append_right _ (List.mem_append_right _ (List.mem_append_right _ (List.mem_append_right _ (List.mem_append_right _ (List.mem_append_right _ (h))))))))))))))))))))))))))))))))))
theorem wg_0 : wa_0.all goodWord = true := by decide +kernel
theorem wg_1 : wa_1.all goodWord = true := by decide +kernel
theorem wg_2 : wa_2.all goodWord = true := by decide +kernel
theorem wg_3 : wa_3.all goodWord = true := by decide +kernel
theorem wg_4 : wa_4.all goodWord = true := by decide +kernel
theorem wg_5 : wa_5.all goodWord = true := by decide +kernel
theorem wg_6 : wa_6.all goodWord = true := by decide +kernel
theorem wg_7 : wa_7.all goodWord = true := by decide +kernel
theorem wg_8 : wa_8.all goodWord = true := by decide +kernel
theorem wg_9 : wa_9.all goodWord = true := by decide +kernel
theorem wg_10 : wa_10.all goodWord = true := by decide +kernel
theorem wg_11 : wa_11.all goodWord = true := by decide +kernel
theorem wg_12 : wa_12.all goodWord = true := by decide +kernel
theorem wg_13 : wa_13.all goodWord = true := by decide +kernel
theorem wg_14 : wa_14.all goodWord = true := by decide +kernel
theorem wg_15 : wa_15.all goodWord = true := by decide +kernel
theorem wg_16 : wa_16.all goodWord = true := by decide +kernel
theorem wg_17 : wa_17.all goodWord = true := by decide +kernel
theorem wg_18 : wa_18.all goodWord = true := by decide +kernel
theorem wg_19 : wa_19.all goodWord = true := by decide +kernel
theorem wg_20 : wa_20.all goodWord = true := by decide +kernel
theorem wg_21 : wa_21.all goodWord = true := by decide +kernel
theorem wg_22 : wa_22.all goodWord = true := by decide +kernel
theorem wg_23 : wa_23.all goodWord = true := by decide +kernel
theorem wg_24 : wa_24.all goodWord = true := by decide +kernel
theorem wh_0 : (wsX40).all goodWord = true := by decide +kernel
theorem wh_1 : (wsX50).all goodWord = true := by decide +kernel
theorem wh_2 : (wsJx4a65c0).all goodWord = true := by decide +kernel
theorem wh_3 : (wsX30).all goodWord = true := by decide +kernel
theorem wh_4 : (wsX10).all goodWord = true := by decide +kernel
theorem wh_5 : (wsX20).all goodWord = true := by decide +kernel
theorem wh_6 : (wsX00).all goodWord = true := by decide +kernel
theorem wh_7 : (((vx_atS RX4 41 "java/lang/IllegalStateException" ["java/lang/RuntimeException", "java/lang/Exception"]).filter goodWord)).all goodWord = true := List.all_eq_true.mpr (fun w h => (List.mem_filter.mp h).2)
theorem wh_8 : (((vx_atS RX4 187 "java/lang/IllegalArgumentException" ["java/lang/RuntimeException", "java/lang/Exception"]).filter goodWord)).all goodWord = true := List.all_eq_true.mpr (fun w h => (List.mem_filter.mp h).2)
theorem wh_9 : (((vx_atS RX4 192 "java/lang/IndexOutOfBoundsException" ["java/lang/RuntimeException", "java/lang/Exception"]).filter goodWord)).all goodWord = true := List.all_eq_true.mpr (fun w h => (List.mem_filter.mp h).2)
theorem WALL_good : ∀ w ∈ WALL, goodWord w = true := List.forall_mem_append.mpr ⟨(List.all_eq_true.mp wg_0), List.forall_mem_append.mpr ⟨(List.all_eq_true.mp wg_1), List.forall_mem_append.mpr ⟨(List.all_eq_true.mp wg_2), List.forall_mem_append.mpr ⟨(List.all_eq_true.mp wg_3), List.forall_mem_append.mpr ⟨(List.all_eq_true.mp wg_4), List.forall_mem_append.mpr ⟨(List.all_eq_true.mp wg_5), List.forall_mem_append.mpr ⟨(List.all_eq_true.mp wg_6), List.forall_mem_append.mpr ⟨(List.all_eq_true.mp wg_7), List.forall_mem_append.mpr ⟨(List.all_eq_true.mp wg_8), List.forall_mem_append.mpr ⟨(List.all_eq_true.mp wg_9), List.forall_mem_append.mpr ⟨(List.all_eq_true.mp wg_10), List.forall_mem_append.mpr ⟨(List.all_eq_true.mp wg_11), List.forall_mem_append.mpr ⟨(List.all_eq_true.mp wg_12), List.forall_mem_append.mpr ⟨(List.all_eq_true.mp wg_13), List.forall_mem_append.mpr ⟨(List.all_eq_true.mp wg_14), List.forall_mem_append.mpr ⟨(List.all_eq_true.mp wg_15), List.forall_mem_append.mpr ⟨(List.all_eq_true.mp wg_16), List.forall_mem_append.mpr ⟨(List.all_eq_true.mp wg_17), List.forall_mem_append.mpr ⟨(List.all_eq_true.mp wg_18), List.forall_mem_append.mpr ⟨(List.all_eq_true.mp wg_19), List.forall_mem_append.mpr ⟨(List.all_eq_true.mp wg_20), List.forall_mem_append.mpr ⟨(List.all_eq_true.mp wg_21), List.forall_mem_append.mpr ⟨(List.all_eq_true.mp wg_22), List.forall_mem_append.mpr ⟨(List.all_eq_true.mp wg_23), List.forall_mem_append.mpr ⟨(List.all_eq_true.mp wg_24), List.forall_mem_append.mpr ⟨(List.all_eq_true.mp wh_0), List.forall_mem_append.mpr ⟨(List.all_eq_true.mp wh_1), List.forall_mem_append.mpr ⟨(List.all_eq_true.mp wh_2), List.forall_mem_append.mpr ⟨(List.all_eq_true.mp wh_3), List.forall_mem_append.mpr ⟨(List.all_eq_true.mp wh_4), List.forall_mem_append.mpr ⟨(List.all_eq_true.mp wh_5), List.forall_mem_append.mpr ⟨(List.all_eq_true.mp wh_6), List.forall_mem_append.mpr ⟨(List.all_eq_true.mp wh_7), List.forall_mem_append.mpr ⟨(List.all_eq_true.mp wh_8), (List.all_eq_true.mp wh_9)⟩⟩⟩⟩⟩⟩⟩⟩⟩⟩⟩⟩⟩⟩⟩⟩⟩⟩⟩⟩⟩⟩⟩⟩⟩⟩⟩⟩⟩⟩⟩⟩⟩⟩
end
section
theorem dX0_init_0 : decode cX0_init 0 = .ok (.aload_n 0, 1) := by decide +kernel
theorem dX0_init_1 : decode cX0_init 1 = .ok (.invokespecial 3, 3) := by decide +kernel
theorem dX0_init_4 : decode cX0_init 4 = .ok (.aload_n 0, 1) := by decide +kernel
theorem dX0_init_5 : decode cX0_init 5 = .ok (.bipush 12, 2) := by decide +kernel
theorem dX0_init_7 : decode cX0_init 7 = .ok (.newarray .int, 2) := by decide +kernel
theorem dX0_init_9 : decode cX0_init 9 = .ok (.putfield 9, 3) := by decide +kernel
theorem dX0_init_12 : decode cX0_init 12 = .ok (.aload_n 0, 1) := by decide +kernel
theorem dX0_init_13 : decode cX0_init 13 = .ok (.iconst 0, 1) := by decide +kernel
theorem dX0_init_14 : decode cX0_init 14 = .ok (.putfield 15, 3) := by decide +kernel
theorem dX0_init_17 : decode cX0_init 17 = .ok (.aload_n 0, 1) := by decide +kernel
theorem dX0_init_18 : decode cX0_init 18 = .ok (.getfield 9, 3) := by decide +kernel
theorem dX0_init_21 : decode cX0_init 21 = .ok (.iconst (-1), 1) := by decide +kernel
theorem dX0_init_22 : decode cX0_init 22 = .ok (.invokestatic 19, 3) := by decide +kernel
theorem dX0_init_25 : decode cX0_init 25 = .ok (.return_, 1) := by decide +kernel
theorem dX0_putIn_0 : decode cX0_putIn 0 = .ok (.aload_n 1, 1) := by decide +kernel
theorem dX0_putIn_1 : decode cX0_putIn 1 = .ok (.getfield 25, 3) := by decide +kernel
theorem dX0_putIn_4 : decode cX0_putIn 4 = .ok (.ifCond .lt 28, 3) := by decide +kernel
theorem dX0_putIn_7 : decode cX0_putIn 7 = .ok (.aload_n 1, 1) := by decide +kernel
theorem dX0_putIn_8 : decode cX0_putIn 8 = .ok (.getfield 25, 3) := by decide +kernel
theorem dX0_putIn_11 : decode cX0_putIn 11 = .ok (.aload_n 0, 1) := by decide +kernel
theorem dX0_putIn_12 : decode cX0_putIn 12 = .ok (.getfield 9, 3) := by decide +kernel
theorem dX0_putIn_15 : decode cX0_putIn 15 = .ok (.arraylength, 1) := by decide +kernel
theorem dX0_putIn_16 : decode cX0_putIn 16 = .ok (.if_icmp .ge 16, 3) := by decide +kernel
theorem dX0_putIn_19 : decode cX0_putIn 19 = .ok (.aload_n 0, 1) := by decide +kernel
theorem dX0_putIn_20 : decode cX0_putIn 20 = .ok (.getfield 9, 3) := by decide +kernel
theorem dX0_putIn_23 : decode cX0_putIn 23 = .ok (.aload_n 1, 1) := by decide +kernel
theorem dX0_putIn_24 : decode cX0_putIn 24 = .ok (.getfield 25, 3) := by decide +kernel
theorem dX0_putIn_27 : decode cX0_putIn 27 = .ok (.aload_n 1, 1) := by decide +kernel
theorem dX0_putIn_28 : decode cX0_putIn 28 = .ok (.getfield 30, 3) := by decide +kernel
theorem dX0_putIn_31 : decode cX0_putIn 31 = .ok (.iastore, 1) := by decide +kernel
theorem dX0_putIn_32 : decode cX0_putIn 32 = .ok (.aload_n 0, 1) := by decide +kernel
theorem dX0_putIn_33 : decode cX0_putIn 33 = .ok (.dup, 1) := by decide +kernel
theorem dX0_putIn_34 : decode cX0_putIn 34 = .ok (.getfield 15, 3) := by decide +kernel
theorem dX0_putIn_37 : decode cX0_putIn 37 = .ok (.iconst 1, 1) := by decide +kernel
theorem dX0_putIn_38 : decode cX0_putIn 38 = .ok (.iadd, 1) := by decide +kernel
theorem dX0_putIn_39 : decode cX0_putIn 39 = .ok (.putfield 15, 3) := by decide +kernel
theorem dX0_putIn_42 : decode cX0_putIn 42 = .ok (.return_, 1) := by decide +kernel
theorem dX0_patternOf_0 : decode cX0_patternOf 0 = .ok (.iload_n 1, 1) := by decide +kernel
theorem dX0_patternOf_1 : decode cX0_patternOf 1 = .ok (.ifCond .lt 21, 3) := by decide +kernel
theorem dX0_patternOf_4 : decode cX0_patternOf 4 = .ok (.iload_n 1, 1) := by decide +kernel
theorem dX0_patternOf_5 : decode cX0_patternOf 5 = .ok (.aload_n 0, 1) := by decide +kernel
theorem dX0_patternOf_6 : decode cX0_patternOf 6 = .ok (.getfield 9, 3) := by decide +kernel
theorem dX0_patternOf_9 : decode cX0_patternOf 9 = .ok (.arraylength, 1) := by decide +kernel
theorem dX0_patternOf_10 : decode cX0_patternOf 10 = .ok (.if_icmp .ge 12, 3) := by decide +kernel
theorem dX0_patternOf_13 : decode cX0_patternOf 13 = .ok (.aload_n 0, 1) := by decide +kernel
theorem dX0_patternOf_14 : decode cX0_patternOf 14 = .ok (.getfield 9, 3) := by decide +kernel
theorem dX0_patternOf_17 : decode cX0_patternOf 17 = .ok (.iload_n 1, 1) := by decide +kernel
theorem dX0_patternOf_18 : decode cX0_patternOf 18 = .ok (.iaload, 1) := by decide +kernel
theorem dX0_patternOf_19 : decode cX0_patternOf 19 = .ok (.goto 4, 3) := by decide +kernel
theorem dX0_patternOf_22 : decode cX0_patternOf 22 = .ok (.iconst (-1), 1) := by decide +kernel
theorem dX0_patternOf_23 : decode cX0_patternOf 23 = .ok (.ireturn, 1) := by decide +kernel
theorem dX1_init_0 : decode cX1_init 0 = .ok (.aload_n 0, 1) := by decide +kernel
theorem dX1_init_1 : decode cX1_init 1 = .ok (.invokespecial 3, 3) := by decide +kernel
theorem dX1_init_4 : decode cX1_init 4 = .ok (.aload_n 0, 1) := by decide +kernel
theorem dX1_init_5 : decode cX1_init 5 = .ok (.iconst 0, 1) := by decide +kernel
theorem dX1_init_6 : decode cX1_init 6 = .ok (.putfield 9, 3) := by decide +kernel
theorem dX1_init_9 : decode cX1_init 9 = .ok (.aload_n 0, 1) := by decide +kernel
theorem dX1_init_10 : decode cX1_init 10 = .ok (.iconst 0, 1) := by decide +kernel
theorem dX1_init_11 : decode cX1_init 11 = .ok (.putfield 15, 3) := by decide +kernel
theorem dX1_init_14 : decode cX1_init 14 = .ok (.bipush 32, 2) := by decide +kernel
theorem dX1_init_16 : decode cX1_init 16 = .ok (.newarray .int, 2) := by decide +kernel
theorem dX1_init_18 : decode cX1_init 18 = .ok (.astore 6, 2) := by decide +kernel
theorem dX1_init_20 : decode cX1_init 20 = .ok (.iconst 0, 1) := by decide +kernel
theorem dX1_init_21 : decode cX1_init 21 = .ok (.istore 7, 2) := by decide +kernel
theorem dX1_init_23 : decode cX1_init 23 = .ok (.iload 7, 2) := by decide +kernel
theorem dX1_init_25 : decode cX1_init 25 = .ok (.aload 6, 2) := by decide +kernel
theorem dX1_init_27 : decode cX1_init 27 = .ok (.arraylength, 1) := by decide +kernel
theorem dX1_init_28 : decode cX1_init 28 = .ok (.if_icmp .ge 55, 3) := by decide +kernel
theorem dX1_init_31 : decode cX1_init 31 = .ok (.iconst 0, 1) := by decide +kernel
theorem dX1_init_32 : decode cX1_init 32 = .ok (.istore 8, 2) := by decide +kernel
theorem dX1_init_34 : decode cX1_init 34 = .ok (.iload 8, 2) := by decide +kernel
theorem dX1_init_36 : decode cX1_init 36 = .ok (.bipush 32, 2) := by decide +kernel
theorem dX1_init_38 : decode cX1_init 38 = .ok (.if_icmp .ge 39, 3) := by decide +kernel
theorem dX1_init_41 : decode cX1_init 41 = .ok (.iload 8, 2) := by decide +kernel
theorem dX1_init_43 : decode cX1_init 43 = .ok (.iload_n 1, 1) := by decide +kernel
theorem dX1_init_44 : decode cX1_init 44 = .ok (.isub, 1) := by decide +kernel
theorem dX1_init_45 : decode cX1_init 45 = .ok (.iload 7, 2) := by decide +kernel
theorem dX1_init_47 : decode cX1_init 47 = .ok (.iload_n 2, 1) := by decide +kernel
theorem dX1_init_48 : decode cX1_init 48 = .ok (.isub, 1) := by decide +kernel
theorem dX1_init_49 : decode cX1_init 49 = .ok (.iload 4, 2) := by decide +kernel
theorem dX1_init_51 : decode cX1_init 51 = .ok (.iload 5, 2) := by decide +kernel
theorem dX1_init_53 : decode cX1_init 53 = .ok (.invokestatic 19, 3) := by decide +kernel
theorem dX1_init_56 : decode cX1_init 56 = .ok (.ifCond .eq 15, 3) := by decide +kernel
theorem dX1_init_59 : decode cX1_init 59 = .ok (.aload 6, 2) := by decide +kernel
theorem dX1_init_61 : decode cX1_init 61 = .ok (.iload 7, 2) := by decide +kernel
theorem dX1_init_63 : decode cX1_init 63 = .ok (.dup2, 1) := by decide +kernel
theorem dX1_init_64 : decode cX1_init 64 = .ok (.iaload, 1) := by decide +kernel
theorem dX1_init_65 : decode cX1_init 65 = .ok (.iconst 1, 1) := by decide +kernel
theorem dX1_init_66 : decode cX1_init 66 = .ok (.iload 8, 2) := by decide +kernel
theorem dX1_init_68 : decode cX1_init 68 = .ok (.ishl, 1) := by decide +kernel
theorem dX1_init_69 : decode cX1_init 69 = .ok (.ior, 1) := by decide +kernel
theorem dX1_init_70 : decode cX1_init 70 = .ok (.iastore, 1) := by decide +kernel
theorem dX1_init_71 : decode cX1_init 71 = .ok (.iinc 8 1, 3) := by decide +kernel
theorem dX1_init_74 : decode cX1_init 74 = .ok (.goto (-40), 3) := by decide +kernel
theorem dX1_init_77 : decode cX1_init 77 = .ok (.iinc 7 1, 3) := by decide +kernel
theorem dX1_init_80 : decode cX1_init 80 = .ok (.goto (-57), 3) := by decide +kernel
theorem dX1_init_83 : decode cX1_init 83 = .ok (.aload_n 0, 1) := by decide +kernel
theorem dX1_init_84 : decode cX1_init 84 = .ok (.iload_n 1, 1) := by decide +kernel
theorem dX1_init_85 : decode cX1_init 85 = .ok (.putfield 23, 3) := by decide +kernel
theorem dX1_init_88 : decode cX1_init 88 = .ok (.aload_n 0, 1) := by decide +kernel
theorem dX1_init_89 : decode cX1_init 89 = .ok (.iload_n 2, 1) := by decide +kernel
theorem dX1_init_90 : decode cX1_init 90 = .ok (.putfield 26, 3) := by decide +kernel
theorem dX1_init_93 : decode cX1_init 93 = .ok (.aload_n 0, 1) := by decide +kernel
theorem dX1_init_94 : decode cX1_init 94 = .ok (.aload 6, 2) := by decide +kernel
theorem dX1_init_96 : decode cX1_init 96 = .ok (.putfield 29, 3) := by decide +kernel
theorem dX1_init_99 : decode cX1_init 99 = .ok (.aload_n 0, 1) := by decide +kernel
theorem dX1_init_100 : decode cX1_init 100 = .ok (.iload_n 3, 1) := by decide +kernel
theorem dX1_init_101 : decode cX1_init 101 = .ok (.putfield 33, 3) := by decide +kernel
theorem dX1_init_104 : decode cX1_init 104 = .ok (.return_, 1) := by decide +kernel
theorem dX1_isWithin_0 : decode cX1_isWithin 0 = .ok (.iload_n 0, 1) := by decide +kernel
theorem dX1_isWithin_1 : decode cX1_isWithin 1 = .ok (.invokestatic 36, 3) := by decide +kernel
theorem dX1_isWithin_4 : decode cX1_isWithin 4 = .ok (.iload_n 2, 1) := by decide +kernel
theorem dX1_isWithin_5 : decode cX1_isWithin 5 = .ok (.if_icmp .gt 11, 3) := by decide +kernel
theorem dX1_isWithin_8 : decode cX1_isWithin 8 = .ok (.iload_n 1, 1) := by decide +kernel
theorem dX1_isWithin_9 : decode cX1_isWithin 9 = .ok (.invokestatic 36, 3) := by decide +kernel
theorem dX1_isWithin_12 : decode cX1_isWithin 12 = .ok (.iload_n 2, 1) := by decide +kernel
theorem dX1_isWithin_13 : decode cX1_isWithin 13 = .ok (.if_icmp .le 5, 3) := by decide +kernel
theorem dX1_isWithin_16 : decode cX1_isWithin 16 = .ok (.iconst 0, 1) := by decide +kernel
theorem dX1_isWithin_17 : decode cX1_isWithin 17 = .ok (.ireturn, 1) := by decide +kernel
theorem dX1_isWithin_18 : decode cX1_isWithin 18 = .ok (.iload_n 0, 1) := by decide +kernel
theorem dX1_isWithin_19 : decode cX1_isWithin 19 = .ok (.iload_n 1, 1) := by decide +kernel
theorem dX1_isWithin_20 : decode cX1_isWithin 20 = .ok (.invokestatic 42, 3) := by decide +kernel
theorem dX1_isWithin_23 : decode cX1_isWithin 23 = .ok (.istore 4, 2) := by decide +kernel
theorem dX1_isWithin_25 : decode cX1_isWithin 25 = .ok (.iload 4, 2) := by decide +kernel
theorem dX1_isWithin_27 : decode cX1_isWithin 27 = .ok (.iconst (-1), 1) := by decide +kernel
theorem dX1_isWithin_28 : decode cX1_isWithin 28 = .ok (.if_icmp .eq 13, 3) := by decide +kernel
theorem dX1_isWithin_31 : decode cX1_isWithin 31 = .ok (.iload_n 3, 1) := by decide +kernel
theorem dX1_isWithin_32 : decode cX1_isWithin 32 = .ok (.iload 4, 2) := by decide +kernel
theorem dX1_isWithin_34 : decode cX1_isWithin 34 = .ok (.iushr, 1) := by decide +kernel
theorem dX1_isWithin_35 : decode cX1_isWithin 35 = .ok (.iconst 1, 1) := by decide +kernel
theorem dX1_isWithin_36 : decode cX1_isWithin 36 = .ok (.iand, 1) := by decide +kernel
theorem dX1_isWithin_37 : decode cX1_isWithin 37 = .ok (.iconst 1, 1) := by decide +kernel
theorem dX1_isWithin_38 : decode cX1_isWithin 38 = .ok (.if_icmp .ne 7, 3) := by decide +kernel
theorem dX1_isWithin_41 : decode cX1_isWithin 41 = .ok (.iconst 1, 1) := by decide +kernel
theorem dX1_isWithin_42 : decode cX1_isWithin 42 = .ok (.goto 4, 3) := by decide +kernel
theorem dX1_isWithin_45 : decode cX1_isWithin 45 = .ok (.iconst 0, 1) := by decide +kernel
theorem dX1_isWithin_46 : decode cX1_isWithin 46 = .ok (.ireturn, 1) := by decide +kernel
theorem dX1_sectorOf_0 : decode cX1_sectorOf 0 = .ok (.iload_n 0, 1) := by decide +kernel
theorem dX1_sectorOf_1 : decode cX1_sectorOf 1 = .ok (.ifCond .ne 9, 3) := by decide +kernel
theorem dX1_sectorOf_4 : decode cX1_sectorOf 4 = .ok (.iload_n 1, 1) := by decide +kernel
theorem dX1_sectorOf_5 : decode cX1_sectorOf 5 = .ok (.ifCond .ne 5, 3) := by decide +kernel
theorem dX1_sectorOf_8 : decode cX1_sectorOf 8 = .ok (.iconst (-1), 1) := by decide +kernel
theorem dX1_sectorOf_9 : decode cX1_sectorOf 9 = .ok (.ireturn, 1) := by decide +kernel
theorem dX1_sectorOf_10 : decode cX1_sectorOf 10 = .ok (.iload_n 0, 1) := by decide +kernel
theorem dX1_sectorOf_11 : decode cX1_sectorOf 11 = .ok (.iload_n 1, 1) := by decide +kernel
theorem dX1_sectorOf_12 : decode cX1_sectorOf 12 = .ok (.invokestatic 46, 3) := by decide +kernel
theorem dX1_sectorOf_15 : decode cX1_sectorOf 15 = .ok (.istore_n 2, 1) := by decide +kernel
theorem dX1_sectorOf_16 : decode cX1_sectorOf 16 = .ok (.iload_n 2, 1) := by decide +kernel
theorem dX1_sectorOf_17 : decode cX1_sectorOf 17 = .ok (.iconst 2, 1) := by decide +kernel
theorem dX1_sectorOf_18 : decode cX1_sectorOf 18 = .ok (.irem, 1) := by decide +kernel
theorem dX1_sectorOf_19 : decode cX1_sectorOf 19 = .ok (.ifCond .ne 10, 3) := by decide +kernel
theorem dX1_sectorOf_22 : decode cX1_sectorOf 22 = .ok (.iload_n 0, 1) := by decide +kernel
theorem dX1_sectorOf_23 : decode cX1_sectorOf 23 = .ok (.invokestatic 36, 3) := by decide +kernel
theorem dX1_sectorOf_26 : decode cX1_sectorOf 26 = .ok (.goto 7, 3) := by decide +kernel
theorem dX1_sectorOf_29 : decode cX1_sectorOf 29 = .ok (.iload_n 1, 1) := by decide +kernel
theorem dX1_sectorOf_30 : decode cX1_sectorOf 30 = .ok (.invokestatic 36, 3) := by decide +kernel
theorem dX1_sectorOf_33 : decode cX1_sectorOf 33 = .ok (.istore_n 3, 1) := by decide +kernel
theorem dX1_sectorOf_34 : decode cX1_sectorOf 34 = .ok (.iload_n 2, 1) := by decide +kernel
theorem dX1_sectorOf_35 : decode cX1_sectorOf 35 = .ok (.iconst 2, 1) := by decide +kernel
theorem dX1_sectorOf_36 : decode cX1_sectorOf 36 = .ok (.irem, 1) := by decide +kernel
theorem dX1_sectorOf_37 : decode cX1_sectorOf 37 = .ok (.ifCond .ne 10, 3) := by decide +kernel
theorem dX1_sectorOf_40 : decode cX1_sectorOf 40 = .ok (.iload_n 1, 1) := by decide +kernel
theorem dX1_sectorOf_41 : decode cX1_sectorOf 41 = .ok (.invokestatic 36, 3) := by decide +kernel
theorem dX1_sectorOf_44 : decode cX1_sectorOf 44 = .ok (.goto 7, 3) := by decide +kernel
theorem dX1_sectorOf_47 : decode cX1_sectorOf 47 = .ok (.iload_n 0, 1) := by decide +kernel
theorem dX1_sectorOf_48 : decode cX1_sectorOf 48 = .ok (.invokestatic 36, 3) := by decide +kernel
theorem dX1_sectorOf_51 : decode cX1_sectorOf 51 = .ok (.istore 4, 2) := by decide +kernel
theorem dX1_sectorOf_53 : decode cX1_sectorOf 53 = .ok (.iload 4, 2) := by decide +kernel
theorem dX1_sectorOf_55 : decode cX1_sectorOf 55 = .ok (.iload_n 3, 1) := by decide +kernel
theorem dX1_sectorOf_56 : decode cX1_sectorOf 56 = .ok (.if_icmp .lt 11, 3) := by decide +kernel
theorem dX1_sectorOf_59 : decode cX1_sectorOf 59 = .ok (.iconst 2, 1) := by decide +kernel
theorem dX1_sectorOf_60 : decode cX1_sectorOf 60 = .ok (.iload_n 2, 1) := by decide +kernel
theorem dX1_sectorOf_61 : decode cX1_sectorOf 61 = .ok (.imul, 1) := by decide +kernel
theorem dX1_sectorOf_62 : decode cX1_sectorOf 62 = .ok (.iconst 1, 1) := by decide +kernel
theorem dX1_sectorOf_63 : decode cX1_sectorOf 63 = .ok (.iadd, 1) := by decide +kernel
theorem dX1_sectorOf_64 : decode cX1_sectorOf 64 = .ok (.goto 6, 3) := by decide +kernel
theorem dX1_sectorOf_67 : decode cX1_sectorOf 67 = .ok (.iconst 2, 1) := by decide +kernel
theorem dX1_sectorOf_68 : decode cX1_sectorOf 68 = .ok (.iload_n 2, 1) := by decide +kernel
theorem dX1_sectorOf_69 : decode cX1_sectorOf 69 = .ok (.imul, 1) := by decide +kernel
theorem dX1_sectorOf_70 : decode cX1_sectorOf 70 = .ok (.ireturn, 1) := by decide +kernel
theorem dX1_quarterOf_0 : decode cX1_quarterOf 0 = .ok (.iload_n 0, 1) := by decide +kernel
theorem dX1_quarterOf_1 : decode cX1_quarterOf 1 = .ok (.ifCond .le 9, 3) := by decide +kernel
theorem dX1_quarterOf_4 : decode cX1_quarterOf 4 = .ok (.iload_n 1, 1) := by decide +kernel
theorem dX1_quarterOf_5 : decode cX1_quarterOf 5 = .ok (.ifCond .lt 5, 3) := by decide +kernel
theorem dX1_quarterOf_8 : decode cX1_quarterOf 8 = .ok (.iconst 0, 1) := by decide +kernel
theorem dX1_quarterOf_9 : decode cX1_quarterOf 9 = .ok (.ireturn, 1) := by decide +kernel
theorem dX1_quarterOf_10 : decode cX1_quarterOf 10 = .ok (.iload_n 0, 1) := by decide +kernel
theorem dX1_quarterOf_11 : decode cX1_quarterOf 11 = .ok (.ifCond .gt 9, 3) := by decide +kernel
theorem dX1_quarterOf_14 : decode cX1_quarterOf 14 = .ok (.iload_n 1, 1) := by decide +kernel
theorem dX1_quarterOf_15 : decode cX1_quarterOf 15 = .ok (.ifCond .le 5, 3) := by decide +kernel
theorem dX1_quarterOf_18 : decode cX1_quarterOf 18 = .ok (.iconst 1, 1) := by decide +kernel
theorem dX1_quarterOf_19 : decode cX1_quarterOf 19 = .ok (.ireturn, 1) := by decide +kernel
theorem dX1_quarterOf_20 : decode cX1_quarterOf 20 = .ok (.iload_n 0, 1) := by decide +kernel
theorem dX1_quarterOf_21 : decode cX1_quarterOf 21 = .ok (.ifCond .ge 9, 3) := by decide +kernel
theorem dX1_quarterOf_24 : decode cX1_quarterOf 24 = .ok (.iload_n 1, 1) := by decide +kernel
theorem dX1_quarterOf_25 : decode cX1_quarterOf 25 = .ok (.ifCond .gt 5, 3) := by decide +kernel
theorem dX1_quarterOf_28 : decode cX1_quarterOf 28 = .ok (.iconst 2, 1) := by decide +kernel
theorem dX1_quarterOf_29 : decode cX1_quarterOf 29 = .ok (.ireturn, 1) := by decide +kernel
theorem dX1_quarterOf_30 : decode cX1_quarterOf 30 = .ok (.iconst 3, 1) := by decide +kernel
theorem dX1_quarterOf_31 : decode cX1_quarterOf 31 = .ok (.ireturn, 1) := by decide +kernel
theorem dX1_canBeSeenFrom_0 : decode cX1_canBeSeenFrom 0 = .ok (.iload_n 2, 1) := by decide +kernel
theorem dX1_canBeSeenFrom_1 : decode cX1_canBeSeenFrom 1 = .ok (.ifCond .lt 22, 3) := by decide +kernel
theorem dX1_canBeSeenFrom_4 : decode cX1_canBeSeenFrom 4 = .ok (.iload_n 2, 1) := by decide +kernel
theorem dX1_canBeSeenFrom_5 : decode cX1_canBeSeenFrom 5 = .ok (.aload_n 0, 1) := by decide +kernel
theorem dX1_canBeSeenFrom_6 : decode cX1_canBeSeenFrom 6 = .ok (.getfield 29, 3) := by decide +kernel
theorem dX1_canBeSeenFrom_9 : decode cX1_canBeSeenFrom 9 = .ok (.arraylength, 1) := by decide +kernel
theorem dX1_canBeSeenFrom_10 : decode cX1_canBeSeenFrom 10 = .ok (.if_icmp .ge 13, 3) := by decide +kernel
theorem dX1_canBeSeenFrom_13 : decode cX1_canBeSeenFrom 13 = .ok (.iload_n 1, 1) := by decide +kernel
theorem dX1_canBeSeenFrom_14 : decode cX1_canBeSeenFrom 14 = .ok (.ifCond .lt 9, 3) := by decide +kernel
theorem dX1_canBeSeenFrom_17 : decode cX1_canBeSeenFrom 17 = .ok (.iload_n 1, 1) := by decide +kernel
theorem dX1_canBeSeenFrom_18 : decode cX1_canBeSeenFrom 18 = .ok (.bipush 32, 2) := by decide +kernel
theorem dX1_canBeSeenFrom_20 : decode cX1_canBeSeenFrom 20 = .ok (.if_icmp .lt 5, 3) := by decide +kernel
theorem dX1_canBeSeenFrom_23 : decode cX1_canBeSeenFrom 23 = .ok (.iconst 0, 1) := by decide +kernel
theorem dX1_canBeSeenFrom_24 : decode cX1_canBeSeenFrom 24 = .ok (.ireturn, 1) := by decide +kernel
theorem dX1_canBeSeenFrom_25 : decode cX1_canBeSeenFrom 25 = .ok (.aload_n 0, 1) := by decide +kernel
theorem dX1_canBeSeenFrom_26 : decode cX1_canBeSeenFrom 26 = .ok (.getfield 29, 3) := by decide +kernel
theorem dX1_canBeSeenFrom_29 : decode cX1_canBeSeenFrom 29 = .ok (.iload_n 2, 1) := by decide +kernel
theorem dX1_canBeSeenFrom_30 : decode cX1_canBeSeenFrom 30 = .ok (.iaload, 1) := by decide +kernel
theorem dX1_canBeSeenFrom_31 : decode cX1_canBeSeenFrom 31 = .ok (.iload_n 1, 1) := by decide +kernel
theorem dX1_canBeSeenFrom_32 : decode cX1_canBeSeenFrom 32 = .ok (.iushr, 1) := by decide +kernel
theorem dX1_canBeSeenFrom_33 : decode cX1_canBeSeenFrom 33 = .ok (.iconst 1, 1) := by decide +kernel
theorem dX1_canBeSeenFrom_34 : decode cX1_canBeSeenFrom 34 = .ok (.iand, 1) := by decide +kernel
theorem dX1_canBeSeenFrom_35 : decode cX1_canBeSeenFrom 35 = .ok (.iconst 1, 1) := by decide +kernel
theorem dX1_canBeSeenFrom_36 : decode cX1_canBeSeenFrom 36 = .ok (.if_icmp .ne 7, 3) := by decide +kernel
theorem dX1_canBeSeenFrom_39 : decode cX1_canBeSeenFrom 39 = .ok (.iconst 1, 1) := by decide +kernel
theorem dX1_canBeSeenFrom_40 : decode cX1_canBeSeenFrom 40 = .ok (.goto 4, 3) := by decide +kernel
theorem dX1_canBeSeenFrom_43 : decode cX1_canBeSeenFrom 43 = .ok (.iconst 0, 1) := by decide +kernel
theorem dX1_canBeSeenFrom_44 : decode cX1_canBeSeenFrom 44 = .ok (.ireturn, 1) := by decide +kernel
theorem dX1_placesSharedWith_0 : decode cX1_placesSharedWith 0 = .ok (.iconst 0, 1) := by decide +kernel
theorem dX1_placesSharedWith_1 : decode cX1_placesSharedWith 1 = .ok (.istore_n 2, 1) := by decide +kernel
theorem dX1_placesSharedWith_2 : decode cX1_placesSharedWith 2 = .ok (.iconst 0, 1) := by decide +kernel
theorem dX1_placesSharedWith_3 : decode cX1_placesSharedWith 3 = .ok (.istore_n 3, 1) := by decide +kernel
theorem dX1_placesSharedWith_4 : decode cX1_placesSharedWith 4 = .ok (.iload_n 3, 1) := by decide +kernel
theorem dX1_placesSharedWith_5 : decode cX1_placesSharedWith 5 = .ok (.aload_n 0, 1) := by decide +kernel
theorem dX1_placesSharedWith_6 : decode cX1_placesSharedWith 6 = .ok (.getfield 29, 3) := by decide +kernel
theorem dX1_placesSharedWith_9 : decode cX1_placesSharedWith 9 = .ok (.arraylength, 1) := by decide +kernel
theorem dX1_placesSharedWith_10 : decode cX1_placesSharedWith 10 = .ok (.if_icmp .ge 37, 3) := by decide +kernel
theorem dX1_placesSharedWith_13 : decode cX1_placesSharedWith 13 = .ok (.iload_n 3, 1) := by decide +kernel
theorem dX1_placesSharedWith_14 : decode cX1_placesSharedWith 14 = .ok (.aload_n 1, 1) := by decide +kernel
theorem dX1_placesSharedWith_15 : decode cX1_placesSharedWith 15 = .ok (.getfield 29, 3) := by decide +kernel
theorem dX1_placesSharedWith_18 : decode cX1_placesSharedWith 18 = .ok (.arraylength, 1) := by decide +kernel
theorem dX1_placesSharedWith_19 : decode cX1_placesSharedWith 19 = .ok (.if_icmp .ge 28, 3) := by decide +kernel
theorem dX1_placesSharedWith_22 : decode cX1_placesSharedWith 22 = .ok (.iload_n 2, 1) := by decide +kernel
theorem dX1_placesSharedWith_23 : decode cX1_placesSharedWith 23 = .ok (.aload_n 0, 1) := by decide +kernel
theorem dX1_placesSharedWith_24 : decode cX1_placesSharedWith 24 = .ok (.getfield 29, 3) := by decide +kernel
theorem dX1_placesSharedWith_27 : decode cX1_placesSharedWith 27 = .ok (.iload_n 3, 1) := by decide +kernel
theorem dX1_placesSharedWith_28 : decode cX1_placesSharedWith 28 = .ok (.iaload, 1) := by decide +kernel
theorem dX1_placesSharedWith_29 : decode cX1_placesSharedWith 29 = .ok (.aload_n 1, 1) := by decide +kernel
theorem dX1_placesSharedWith_30 : decode cX1_placesSharedWith 30 = .ok (.getfield 29, 3) := by decide +kernel
theorem dX1_placesSharedWith_33 : decode cX1_placesSharedWith 33 = .ok (.iload_n 3, 1) := by decide +kernel
theorem dX1_placesSharedWith_34 : decode cX1_placesSharedWith 34 = .ok (.iaload, 1) := by decide +kernel
theorem dX1_placesSharedWith_35 : decode cX1_placesSharedWith 35 = .ok (.iand, 1) := by decide +kernel
theorem dX1_placesSharedWith_36 : decode cX1_placesSharedWith 36 = .ok (.invokestatic 49, 3) := by decide +kernel
theorem dX1_placesSharedWith_39 : decode cX1_placesSharedWith 39 = .ok (.iadd, 1) := by decide +kernel
theorem dX1_placesSharedWith_40 : decode cX1_placesSharedWith 40 = .ok (.istore_n 2, 1) := by decide +kernel
theorem dX1_placesSharedWith_41 : decode cX1_placesSharedWith 41 = .ok (.iinc 3 1, 3) := by decide +kernel
theorem dX1_placesSharedWith_44 : decode cX1_placesSharedWith 44 = .ok (.goto (-40), 3) := by decide +kernel
theorem dX1_placesSharedWith_47 : decode cX1_placesSharedWith 47 = .ok (.iload_n 2, 1) := by decide +kernel
theorem dX1_placesSharedWith_48 : decode cX1_placesSharedWith 48 = .ok (.ireturn, 1) := by decide +kernel
theorem dX2_init_0 : decode cX2_init 0 = .ok (.aload_n 0, 1) := by decide +kernel
theorem dX2_init_1 : decode cX2_init 1 = .ok (.invokespecial 1, 3) := by decide +kernel
theorem dX2_init_4 : decode cX2_init 4 = .ok (.aload_n 0, 1) := by decide +kernel
theorem dX2_init_5 : decode cX2_init 5 = .ok (.iload_n 1, 1) := by decide +kernel
theorem dX2_init_6 : decode cX2_init 6 = .ok (.putfield 7, 3) := by decide +kernel
theorem dX2_init_9 : decode cX2_init 9 = .ok (.aload_n 0, 1) := by decide +kernel
theorem dX2_init_10 : decode cX2_init 10 = .ok (.iload_n 2, 1) := by decide +kernel
theorem dX2_init_11 : decode cX2_init 11 = .ok (.putfield 13, 3) := by decide +kernel
theorem dX2_init_14 : decode cX2_init 14 = .ok (.return_, 1) := by decide +kernel
theorem dX3_init_0 : decode cX3_init 0 = .ok (.aload_n 0, 1) := by decide +kernel
theorem dX3_init_1 : decode cX3_init 1 = .ok (.invokespecial 1, 3) := by decide +kernel
theorem dX3_init_4 : decode cX3_init 4 = .ok (.iconst 0, 1) := by decide +kernel
theorem dX3_init_5 : decode cX3_init 5 = .ok (.istore_n 2, 1) := by decide +kernel
theorem dX3_init_6 : decode cX3_init 6 = .ok (.lconst 0, 1) := by decide +kernel
theorem dX3_init_7 : decode cX3_init 7 = .ok (.lstore_n 3, 1) := by decide +kernel
theorem dX3_init_8 : decode cX3_init 8 = .ok (.iconst 0, 1) := by decide +kernel
theorem dX3_init_9 : decode cX3_init 9 = .ok (.istore 5, 2) := by decide +kernel
theorem dX3_init_11 : decode cX3_init 11 = .ok (.iload 5, 2) := by decide +kernel
theorem dX3_init_13 : decode cX3_init 13 = .ok (.aload_n 1, 1) := by decide +kernel
theorem dX3_init_14 : decode cX3_init 14 = .ok (.arraylength, 1) := by decide +kernel
theorem dX3_init_15 : decode cX3_init 15 = .ok (.if_icmp .ge 43, 3) := by decide +kernel
theorem dX3_init_18 : decode cX3_init 18 = .ok (.iconst 0, 1) := by decide +kernel
theorem dX3_init_19 : decode cX3_init 19 = .ok (.istore 6, 2) := by decide +kernel
theorem dX3_init_21 : decode cX3_init 21 = .ok (.iload 6, 2) := by decide +kernel
theorem dX3_init_23 : decode cX3_init 23 = .ok (.aload_n 1, 1) := by decide +kernel
theorem dX3_init_24 : decode cX3_init 24 = .ok (.iload 5, 2) := by decide +kernel
theorem dX3_init_26 : decode cX3_init 26 = .ok (.iaload, 1) := by decide +kernel
theorem dX3_init_27 : decode cX3_init 27 = .ok (.if_icmp .ge 25, 3) := by decide +kernel
theorem dX3_init_30 : decode cX3_init 30 = .ok (.iload 5, 2) := by decide +kernel
theorem dX3_init_32 : decode cX3_init 32 = .ok (.iconst 2, 1) := by decide +kernel
theorem dX3_init_33 : decode cX3_init 33 = .ok (.irem, 1) := by decide +kernel
theorem dX3_init_34 : decode cX3_init 34 = .ok (.ifCond .ne 9, 3) := by decide +kernel
theorem dX3_init_37 : decode cX3_init 37 = .ok (.lload_n 3, 1) := by decide +kernel
theorem dX3_init_38 : decode cX3_init 38 = .ok (.lconst 1, 1) := by decide +kernel
theorem dX3_init_39 : decode cX3_init 39 = .ok (.iload_n 2, 1) := by decide +kernel
theorem dX3_init_40 : decode cX3_init 40 = .ok (.lshl, 1) := by decide +kernel
theorem dX3_init_41 : decode cX3_init 41 = .ok (.lor, 1) := by decide +kernel
theorem dX3_init_42 : decode cX3_init 42 = .ok (.lstore_n 3, 1) := by decide +kernel
theorem dX3_init_43 : decode cX3_init 43 = .ok (.iinc 2 1, 3) := by decide +kernel
theorem dX3_init_46 : decode cX3_init 46 = .ok (.iinc 6 1, 3) := by decide +kernel
theorem dX3_init_49 : decode cX3_init 49 = .ok (.goto (-28), 3) := by decide +kernel
theorem dX3_init_52 : decode cX3_init 52 = .ok (.iinc 5 1, 3) := by decide +kernel
theorem dX3_init_55 : decode cX3_init 55 = .ok (.goto (-44), 3) := by decide +kernel
theorem dX3_init_58 : decode cX3_init 58 = .ok (.aload_n 0, 1) := by decide +kernel
theorem dX3_init_59 : decode cX3_init 59 = .ok (.aload_n 1, 1) := by decide +kernel
theorem dX3_init_60 : decode cX3_init 60 = .ok (.putfield 7, 3) := by decide +kernel
theorem dX3_init_63 : decode cX3_init 63 = .ok (.aload_n 0, 1) := by decide +kernel
theorem dX3_init_64 : decode cX3_init 64 = .ok (.iload_n 2, 1) := by decide +kernel
theorem dX3_init_65 : decode cX3_init 65 = .ok (.putfield 13, 3) := by decide +kernel
theorem dX3_init_68 : decode cX3_init 68 = .ok (.aload_n 0, 1) := by decide +kernel
theorem dX3_init_69 : decode cX3_init 69 = .ok (.lload_n 3, 1) := by decide +kernel
theorem dX3_init_70 : decode cX3_init 70 = .ok (.putfield 17, 3) := by decide +kernel
theorem dX3_init_73 : decode cX3_init 73 = .ok (.aload_n 0, 1) := by decide +kernel
theorem dX3_init_74 : decode cX3_init 74 = .ok (.aload_n 1, 1) := by decide +kernel
theorem dX3_init_75 : decode cX3_init 75 = .ok (.invokestatic 21, 3) := by decide +kernel
theorem dX3_init_78 : decode cX3_init 78 = .ok (.putfield 25, 3) := by decide +kernel
theorem dX3_init_81 : decode cX3_init 81 = .ok (.return_, 1) := by decide +kernel
theorem dX3_cycleOf_0 : decode cX3_cycleOf 0 = .ok (.iconst 2, 1) := by decide +kernel
theorem dX3_cycleOf_1 : decode cX3_cycleOf 1 = .ok (.istore_n 1, 1) := by decide +kernel
theorem dX3_cycleOf_2 : decode cX3_cycleOf 2 = .ok (.iload_n 1, 1) := by decide +kernel
theorem dX3_cycleOf_3 : decode cX3_cycleOf 3 = .ok (.aload_n 0, 1) := by decide +kernel
theorem dX3_cycleOf_4 : decode cX3_cycleOf 4 = .ok (.arraylength, 1) := by decide +kernel
theorem dX3_cycleOf_5 : decode cX3_cycleOf 5 = .ok (.if_icmp .ge 26, 3) := by decide +kernel
theorem dX3_cycleOf_8 : decode cX3_cycleOf 8 = .ok (.aload_n 0, 1) := by decide +kernel
theorem dX3_cycleOf_9 : decode cX3_cycleOf 9 = .ok (.arraylength, 1) := by decide +kernel
theorem dX3_cycleOf_10 : decode cX3_cycleOf 10 = .ok (.iload_n 1, 1) := by decide +kernel
theorem dX3_cycleOf_11 : decode cX3_cycleOf 11 = .ok (.irem, 1) := by decide +kernel
theorem dX3_cycleOf_12 : decode cX3_cycleOf 12 = .ok (.ifCond .ne 13, 3) := by decide +kernel
theorem dX3_cycleOf_15 : decode cX3_cycleOf 15 = .ok (.aload_n 0, 1) := by decide +kernel
theorem dX3_cycleOf_16 : decode cX3_cycleOf 16 = .ok (.iload_n 1, 1) := by decide +kernel
theorem dX3_cycleOf_17 : decode cX3_cycleOf 17 = .ok (.invokestatic 28, 3) := by decide +kernel
theorem dX3_cycleOf_20 : decode cX3_cycleOf 20 = .ok (.ifCond .eq 5, 3) := by decide +kernel
theorem dX3_cycleOf_23 : decode cX3_cycleOf 23 = .ok (.iload_n 1, 1) := by decide +kernel
theorem dX3_cycleOf_24 : decode cX3_cycleOf 24 = .ok (.ireturn, 1) := by decide +kernel
theorem dX3_cycleOf_25 : decode cX3_cycleOf 25 = .ok (.iinc 1 2, 3) := by decide +kernel
theorem dX3_cycleOf_28 : decode cX3_cycleOf 28 = .ok (.goto (-26), 3) := by decide +kernel
theorem dX3_cycleOf_31 : decode cX3_cycleOf 31 = .ok (.aload_n 0, 1) := by decide +kernel
theorem dX3_cycleOf_32 : decode cX3_cycleOf 32 = .ok (.arraylength, 1) := by decide +kernel
theorem dX3_cycleOf_33 : decode cX3_cycleOf 33 = .ok (.ireturn, 1) := by decide +kernel
theorem dX3_repeatsAfter_0 : decode cX3_repeatsAfter 0 = .ok (.iload_n 1, 1) := by decide +kernel
theorem dX3_repeatsAfter_1 : decode cX3_repeatsAfter 1 = .ok (.istore_n 2, 1) := by decide +kernel
theorem dX3_repeatsAfter_2 : decode cX3_repeatsAfter 2 = .ok (.iload_n 2, 1) := by decide +kernel
theorem dX3_repeatsAfter_3 : decode cX3_repeatsAfter 3 = .ok (.aload_n 0, 1) := by decide +kernel
theorem dX3_repeatsAfter_4 : decode cX3_repeatsAfter 4 = .ok (.arraylength, 1) := by decide +kernel
theorem dX3_repeatsAfter_5 : decode cX3_repeatsAfter 5 = .ok (.if_icmp .ge 22, 3) := by decide +kernel
theorem dX3_repeatsAfter_8 : decode cX3_repeatsAfter 8 = .ok (.aload_n 0, 1) := by decide +kernel
theorem dX3_repeatsAfter_9 : decode cX3_repeatsAfter 9 = .ok (.iload_n 2, 1) := by decide +kernel
theorem dX3_repeatsAfter_10 : decode cX3_repeatsAfter 10 = .ok (.iaload, 1) := by decide +kernel
theorem dX3_repeatsAfter_11 : decode cX3_repeatsAfter 11 = .ok (.aload_n 0, 1) := by decide +kernel
theorem dX3_repeatsAfter_12 : decode cX3_repeatsAfter 12 = .ok (.iload_n 2, 1) := by decide +kernel
theorem dX3_repeatsAfter_13 : decode cX3_repeatsAfter 13 = .ok (.iload_n 1, 1) := by decide +kernel
theorem dX3_repeatsAfter_14 : decode cX3_repeatsAfter 14 = .ok (.isub, 1) := by decide +kernel
theorem dX3_repeatsAfter_15 : decode cX3_repeatsAfter 15 = .ok (.iaload, 1) := by decide +kernel
theorem dX3_repeatsAfter_16 : decode cX3_repeatsAfter 16 = .ok (.if_icmp .eq 5, 3) := by decide +kernel
theorem dX3_repeatsAfter_19 : decode cX3_repeatsAfter 19 = .ok (.iconst 0, 1) := by decide +kernel
theorem dX3_repeatsAfter_20 : decode cX3_repeatsAfter 20 = .ok (.ireturn, 1) := by decide +kernel
theorem dX3_repeatsAfter_21 : decode cX3_repeatsAfter 21 = .ok (.iinc 2 1, 3) := by decide +kernel
theorem dX3_repeatsAfter_24 : decode cX3_repeatsAfter 24 = .ok (.goto (-22), 3) := by decide +kernel
theorem dX3_repeatsAfter_27 : decode cX3_repeatsAfter 27 = .ok (.iconst 1, 1) := by decide +kernel
theorem dX3_repeatsAfter_28 : decode cX3_repeatsAfter 28 = .ok (.ireturn, 1) := by decide +kernel
theorem dX3_isLight_0 : decode cX3_isLight 0 = .ok (.aload_n 0, 1) := by decide +kernel
theorem dX3_isLight_1 : decode cX3_isLight 1 = .ok (.getfield 13, 3) := by decide +kernel
theorem dX3_isLight_4 : decode cX3_isLight 4 = .ok (.iconst 1, 1) := by decide +kernel
theorem dX3_isLight_5 : decode cX3_isLight 5 = .ok (.if_icmp .lt 7, 3) := by decide +kernel
theorem dX3_isLight_8 : decode cX3_isLight 8 = .ok (.iload_n 1, 1) := by decide +kernel
theorem dX3_isLight_9 : decode cX3_isLight 9 = .ok (.ifCond .ge 5, 3) := by decide +kernel
theorem dX3_isLight_12 : decode cX3_isLight 12 = .ok (.iconst 0, 1) := by decide +kernel
theorem dX3_isLight_13 : decode cX3_isLight 13 = .ok (.ireturn, 1) := by decide +kernel
theorem dX3_isLight_14 : decode cX3_isLight 14 = .ok (.aload_n 0, 1) := by decide +kernel
theorem dX3_isLight_15 : decode cX3_isLight 15 = .ok (.getfield 17, 3) := by decide +kernel
theorem dX3_isLight_18 : decode cX3_isLight 18 = .ok (.iload_n 1, 1) := by decide +kernel
theorem dX3_isLight_19 : decode cX3_isLight 19 = .ok (.aload_n 0, 1) := by decide +kernel
theorem dX3_isLight_20 : decode cX3_isLight 20 = .ok (.getfield 13, 3) := by decide +kernel
theorem dX3_isLight_23 : decode cX3_isLight 23 = .ok (.irem, 1) := by decide +kernel
theorem dX3_isLight_24 : decode cX3_isLight 24 = .ok (.lushr, 1) := by decide +kernel
theorem dX3_isLight_25 : decode cX3_isLight 25 = .ok (.lconst 1, 1) := by decide +kernel
theorem dX3_isLight_26 : decode cX3_isLight 26 = .ok (.land, 1) := by decide +kernel
theorem dX3_isLight_27 : decode cX3_isLight 27 = .ok (.lconst 1, 1) := by decide +kernel
theorem dX3_isLight_28 : decode cX3_isLight 28 = .ok (.lcmp, 1) := by decide +kernel
theorem dX3_isLight_29 : decode cX3_isLight 29 = .ok (.ifCond .ne 7, 3) := by decide +kernel
theorem dX3_isLight_32 : decode cX3_isLight 32 = .ok (.iconst 1, 1) := by decide +kernel
theorem dX3_isLight_33 : decode cX3_isLight 33 = .ok (.goto 4, 3) := by decide +kernel
theorem dX3_isLight_36 : decode cX3_isLight 36 = .ok (.iconst 0, 1) := by decide +kernel
theorem dX3_isLight_37 : decode cX3_isLight 37 = .ok (.ireturn, 1) := by decide +kernel
theorem dX3_hasPhasesOf_0 : decode cX3_hasPhasesOf 0 = .ok (.aload_n 0, 1) := by decide +kernel
theorem dX3_hasPhasesOf_1 : decode cX3_hasPhasesOf 1 = .ok (.getfield 25, 3) := by decide +kernel
theorem dX3_hasPhasesOf_4 : decode cX3_hasPhasesOf 4 = .ok (.aload_n 1, 1) := by decide +kernel
theorem dX3_hasPhasesOf_5 : decode cX3_hasPhasesOf 5 = .ok (.getfield 25, 3) := by decide +kernel
theorem dX3_hasPhasesOf_8 : decode cX3_hasPhasesOf 8 = .ok (.if_icmp .eq 5, 3) := by decide +kernel
theorem dX3_hasPhasesOf_11 : decode cX3_hasPhasesOf 11 = .ok (.iconst 0, 1) := by decide +kernel
theorem dX3_hasPhasesOf_12 : decode cX3_hasPhasesOf 12 = .ok (.ireturn, 1) := by decide +kernel
theorem dX3_hasPhasesOf_13 : decode cX3_hasPhasesOf 13 = .ok (.iconst 0, 1) := by decide +kernel
theorem dX3_hasPhasesOf_14 : decode cX3_hasPhasesOf 14 = .ok (.istore_n 2, 1) := by decide +kernel
theorem dX3_hasPhasesOf_15 : decode cX3_hasPhasesOf 15 = .ok (.iload_n 2, 1) := by decide +kernel
theorem dX3_hasPhasesOf_16 : decode cX3_hasPhasesOf 16 = .ok (.aload_n 0, 1) := by decide +kernel
theorem dX3_hasPhasesOf_17 : decode cX3_hasPhasesOf 17 = .ok (.getfield 25, 3) := by decide +kernel
theorem dX3_hasPhasesOf_20 : decode cX3_hasPhasesOf 20 = .ok (.if_icmp .ge 20, 3) := by decide +kernel
theorem dX3_hasPhasesOf_23 : decode cX3_hasPhasesOf 23 = .ok (.aload_n 0, 1) := by decide +kernel
theorem dX3_hasPhasesOf_24 : decode cX3_hasPhasesOf 24 = .ok (.aload_n 1, 1) := by decide +kernel
theorem dX3_hasPhasesOf_25 : decode cX3_hasPhasesOf 25 = .ok (.iload_n 2, 1) := by decide +kernel
theorem dX3_hasPhasesOf_26 : decode cX3_hasPhasesOf 26 = .ok (.invokevirtual 32, 3) := by decide +kernel
theorem dX3_hasPhasesOf_29 : decode cX3_hasPhasesOf 29 = .ok (.ifCond .eq 5, 3) := by decide +kernel
theorem dX3_hasPhasesOf_32 : decode cX3_hasPhasesOf 32 = .ok (.iconst 1, 1) := by decide +kernel
theorem dX3_hasPhasesOf_33 : decode cX3_hasPhasesOf 33 = .ok (.ireturn, 1) := by decide +kernel
theorem dX3_hasPhasesOf_34 : decode cX3_hasPhasesOf 34 = .ok (.iinc 2 2, 3) := by decide +kernel
theorem dX3_hasPhasesOf_37 : decode cX3_hasPhasesOf 37 = .ok (.goto (-22), 3) := by decide +kernel
theorem dX3_hasPhasesOf_40 : decode cX3_hasPhasesOf 40 = .ok (.iconst 0, 1) := by decide +kernel
theorem dX3_hasPhasesOf_41 : decode cX3_hasPhasesOf 41 = .ok (.ireturn, 1) := by decide +kernel
theorem dX3_hasPhasesTurned_0 : decode cX3_hasPhasesTurned 0 = .ok (.iconst 0, 1) := by decide +kernel
theorem dX3_hasPhasesTurned_1 : decode cX3_hasPhasesTurned 1 = .ok (.istore_n 3, 1) := by decide +kernel
theorem dX3_hasPhasesTurned_2 : decode cX3_hasPhasesTurned 2 = .ok (.iload_n 3, 1) := by decide +kernel
theorem dX3_hasPhasesTurned_3 : decode cX3_hasPhasesTurned 3 = .ok (.aload_n 0, 1) := by decide +kernel
theorem dX3_hasPhasesTurned_4 : decode cX3_hasPhasesTurned 4 = .ok (.getfield 25, 3) := by decide +kernel
theorem dX3_hasPhasesTurned_7 : decode cX3_hasPhasesTurned 7 = .ok (.if_icmp .ge 53, 3) := by decide +kernel
theorem dX3_hasPhasesTurned_10 : decode cX3_hasPhasesTurned 10 = .ok (.iload_n 3, 1) := by decide +kernel
theorem dX3_hasPhasesTurned_11 : decode cX3_hasPhasesTurned 11 = .ok (.iload_n 2, 1) := by decide +kernel
theorem dX3_hasPhasesTurned_12 : decode cX3_hasPhasesTurned 12 = .ok (.iadd, 1) := by decide +kernel
theorem dX3_hasPhasesTurned_13 : decode cX3_hasPhasesTurned 13 = .ok (.aload_n 0, 1) := by decide +kernel
theorem dX3_hasPhasesTurned_14 : decode cX3_hasPhasesTurned 14 = .ok (.getfield 25, 3) := by decide +kernel
theorem dX3_hasPhasesTurned_17 : decode cX3_hasPhasesTurned 17 = .ok (.if_icmp .ge 9, 3) := by decide +kernel
theorem dX3_hasPhasesTurned_20 : decode cX3_hasPhasesTurned 20 = .ok (.iload_n 3, 1) := by decide +kernel
theorem dX3_hasPhasesTurned_21 : decode cX3_hasPhasesTurned 21 = .ok (.iload_n 2, 1) := by decide +kernel
theorem dX3_hasPhasesTurned_22 : decode cX3_hasPhasesTurned 22 = .ok (.iadd, 1) := by decide +kernel
theorem dX3_hasPhasesTurned_23 : decode cX3_hasPhasesTurned 23 = .ok (.goto 11, 3) := by decide +kernel
theorem dX3_hasPhasesTurned_26 : decode cX3_hasPhasesTurned 26 = .ok (.iload_n 3, 1) := by decide +kernel
theorem dX3_hasPhasesTurned_27 : decode cX3_hasPhasesTurned 27 = .ok (.iload_n 2, 1) := by decide +kernel
theorem dX3_hasPhasesTurned_28 : decode cX3_hasPhasesTurned 28 = .ok (.iadd, 1) := by decide +kernel
theorem dX3_hasPhasesTurned_29 : decode cX3_hasPhasesTurned 29 = .ok (.aload_n 0, 1) := by decide +kernel
theorem dX3_hasPhasesTurned_30 : decode cX3_hasPhasesTurned 30 = .ok (.getfield 25, 3) := by decide +kernel
theorem dX3_hasPhasesTurned_33 : decode cX3_hasPhasesTurned 33 = .ok (.isub, 1) := by decide +kernel
theorem dX3_hasPhasesTurned_34 : decode cX3_hasPhasesTurned 34 = .ok (.istore 4, 2) := by decide +kernel
theorem dX3_hasPhasesTurned_36 : decode cX3_hasPhasesTurned 36 = .ok (.aload_n 0, 1) := by decide +kernel
theorem dX3_hasPhasesTurned_37 : decode cX3_hasPhasesTurned 37 = .ok (.getfield 7, 3) := by decide +kernel
theorem dX3_hasPhasesTurned_40 : decode cX3_hasPhasesTurned 40 = .ok (.iload 4, 2) := by decide +kernel
theorem dX3_hasPhasesTurned_42 : decode cX3_hasPhasesTurned 42 = .ok (.iaload, 1) := by decide +kernel
theorem dX3_hasPhasesTurned_43 : decode cX3_hasPhasesTurned 43 = .ok (.aload_n 1, 1) := by decide +kernel
theorem dX3_hasPhasesTurned_44 : decode cX3_hasPhasesTurned 44 = .ok (.getfield 7, 3) := by decide +kernel
theorem dX3_hasPhasesTurned_47 : decode cX3_hasPhasesTurned 47 = .ok (.iload_n 3, 1) := by decide +kernel
theorem dX3_hasPhasesTurned_48 : decode cX3_hasPhasesTurned 48 = .ok (.iaload, 1) := by decide +kernel
theorem dX3_hasPhasesTurned_49 : decode cX3_hasPhasesTurned 49 = .ok (.if_icmp .eq 5, 3) := by decide +kernel
theorem dX3_hasPhasesTurned_52 : decode cX3_hasPhasesTurned 52 = .ok (.iconst 0, 1) := by decide +kernel
theorem dX3_hasPhasesTurned_53 : decode cX3_hasPhasesTurned 53 = .ok (.ireturn, 1) := by decide +kernel
theorem dX3_hasPhasesTurned_54 : decode cX3_hasPhasesTurned 54 = .ok (.iinc 3 1, 3) := by decide +kernel
theorem dX3_hasPhasesTurned_57 : decode cX3_hasPhasesTurned 57 = .ok (.goto (-55), 3) := by decide +kernel
theorem dX3_hasPhasesTurned_60 : decode cX3_hasPhasesTurned 60 = .ok (.iconst 1, 1) := by decide +kernel
theorem dX3_hasPhasesTurned_61 : decode cX3_hasPhasesTurned 61 = .ok (.ireturn, 1) := by decide +kernel
theorem dX3_hasSecondsOf_0 : decode cX3_hasSecondsOf 0 = .ok (.iconst 0, 1) := by decide +kernel
theorem dX3_hasSecondsOf_1 : decode cX3_hasSecondsOf 1 = .ok (.istore_n 2, 1) := by decide +kernel
theorem dX3_hasSecondsOf_2 : decode cX3_hasSecondsOf 2 = .ok (.iload_n 2, 1) := by decide +kernel
theorem dX3_hasSecondsOf_3 : decode cX3_hasSecondsOf 3 = .ok (.aload_n 0, 1) := by decide +kernel
theorem dX3_hasSecondsOf_4 : decode cX3_hasSecondsOf 4 = .ok (.getfield 13, 3) := by decide +kernel
theorem dX3_hasSecondsOf_7 : decode cX3_hasSecondsOf 7 = .ok (.if_icmp .ge 20, 3) := by decide +kernel
theorem dX3_hasSecondsOf_10 : decode cX3_hasSecondsOf 10 = .ok (.aload_n 0, 1) := by decide +kernel
theorem dX3_hasSecondsOf_11 : decode cX3_hasSecondsOf 11 = .ok (.aload_n 1, 1) := by decide +kernel
theorem dX3_hasSecondsOf_12 : decode cX3_hasSecondsOf 12 = .ok (.iload_n 2, 1) := by decide +kernel
theorem dX3_hasSecondsOf_13 : decode cX3_hasSecondsOf 13 = .ok (.invokevirtual 36, 3) := by decide +kernel
theorem dX3_hasSecondsOf_16 : decode cX3_hasSecondsOf 16 = .ok (.ifCond .eq 5, 3) := by decide +kernel
theorem dX3_hasSecondsOf_19 : decode cX3_hasSecondsOf 19 = .ok (.iconst 1, 1) := by decide +kernel
theorem dX3_hasSecondsOf_20 : decode cX3_hasSecondsOf 20 = .ok (.ireturn, 1) := by decide +kernel
theorem dX3_hasSecondsOf_21 : decode cX3_hasSecondsOf 21 = .ok (.iinc 2 1, 3) := by decide +kernel
theorem dX3_hasSecondsOf_24 : decode cX3_hasSecondsOf 24 = .ok (.goto (-22), 3) := by decide +kernel
theorem dX3_hasSecondsOf_27 : decode cX3_hasSecondsOf 27 = .ok (.iconst 0, 1) := by decide +kernel
theorem dX3_hasSecondsOf_28 : decode cX3_hasSecondsOf 28 = .ok (.ireturn, 1) := by decide +kernel
theorem dX3_hasSecondsLater_0 : decode cX3_hasSecondsLater 0 = .ok (.aload_n 0, 1) := by decide +kernel
theorem dX3_hasSecondsLater_1 : decode cX3_hasSecondsLater 1 = .ok (.getfield 13, 3) := by decide +kernel
theorem dX3_hasSecondsLater_4 : decode cX3_hasSecondsLater 4 = .ok (.aload_n 1, 1) := by decide +kernel
theorem dX3_hasSecondsLater_5 : decode cX3_hasSecondsLater 5 = .ok (.getfield 13, 3) := by decide +kernel
theorem dX3_hasSecondsLater_8 : decode cX3_hasSecondsLater 8 = .ok (.imul, 1) := by decide +kernel
theorem dX3_hasSecondsLater_9 : decode cX3_hasSecondsLater 9 = .ok (.istore_n 3, 1) := by decide +kernel
theorem dX3_hasSecondsLater_10 : decode cX3_hasSecondsLater 10 = .ok (.iconst 0, 1) := by decide +kernel
theorem dX3_hasSecondsLater_11 : decode cX3_hasSecondsLater 11 = .ok (.istore 4, 2) := by decide +kernel
theorem dX3_hasSecondsLater_13 : decode cX3_hasSecondsLater 13 = .ok (.iload 4, 2) := by decide +kernel
theorem dX3_hasSecondsLater_15 : decode cX3_hasSecondsLater 15 = .ok (.iload_n 3, 1) := by decide +kernel
theorem dX3_hasSecondsLater_16 : decode cX3_hasSecondsLater 16 = .ok (.if_icmp .ge 28, 3) := by decide +kernel
theorem dX3_hasSecondsLater_19 : decode cX3_hasSecondsLater 19 = .ok (.aload_n 0, 1) := by decide +kernel
theorem dX3_hasSecondsLater_20 : decode cX3_hasSecondsLater 20 = .ok (.iload 4, 2) := by decide +kernel
theorem dX3_hasSecondsLater_22 : decode cX3_hasSecondsLater 22 = .ok (.iload_n 2, 1) := by decide +kernel
theorem dX3_hasSecondsLater_23 : decode cX3_hasSecondsLater 23 = .ok (.iadd, 1) := by decide +kernel
theorem dX3_hasSecondsLater_24 : decode cX3_hasSecondsLater 24 = .ok (.invokevirtual 39, 3) := by decide +kernel
theorem dX3_hasSecondsLater_27 : decode cX3_hasSecondsLater 27 = .ok (.aload_n 1, 1) := by decide +kernel
theorem dX3_hasSecondsLater_28 : decode cX3_hasSecondsLater 28 = .ok (.iload 4, 2) := by decide +kernel
theorem dX3_hasSecondsLater_30 : decode cX3_hasSecondsLater 30 = .ok (.invokevirtual 39, 3) := by decide +kernel
theorem dX3_hasSecondsLater_33 : decode cX3_hasSecondsLater 33 = .ok (.if_icmp .eq 5, 3) := by decide +kernel
theorem dX3_hasSecondsLater_36 : decode cX3_hasSecondsLater 36 = .ok (.iconst 0, 1) := by decide +kernel
theorem dX3_hasSecondsLater_37 : decode cX3_hasSecondsLater 37 = .ok (.ireturn, 1) := by decide +kernel
theorem dX3_hasSecondsLater_38 : decode cX3_hasSecondsLater 38 = .ok (.iinc 4 1, 3) := by decide +kernel
theorem dX3_hasSecondsLater_41 : decode cX3_hasSecondsLater 41 = .ok (.goto (-28), 3) := by decide +kernel
theorem dX3_hasSecondsLater_44 : decode cX3_hasSecondsLater 44 = .ok (.iconst 1, 1) := by decide +kernel
theorem dX3_hasSecondsLater_45 : decode cX3_hasSecondsLater 45 = .ok (.ireturn, 1) := by decide +kernel
theorem dX3_canLookLike_0 : decode cX3_canLookLike 0 = .ok (.iconst 0, 1) := by decide +kernel
theorem dX3_canLookLike_1 : decode cX3_canLookLike 1 = .ok (.istore 4, 2) := by decide +kernel
theorem dX3_canLookLike_3 : decode cX3_canLookLike 3 = .ok (.iload 4, 2) := by decide +kernel
theorem dX3_canLookLike_5 : decode cX3_canLookLike 5 = .ok (.aload_n 0, 1) := by decide +kernel
theorem dX3_canLookLike_6 : decode cX3_canLookLike 6 = .ok (.getfield 13, 3) := by decide +kernel
theorem dX3_canLookLike_9 : decode cX3_canLookLike 9 = .ok (.if_icmp .ge 22, 3) := by decide +kernel
theorem dX3_canLookLike_12 : decode cX3_canLookLike 12 = .ok (.aload_n 0, 1) := by decide +kernel
theorem dX3_canLookLike_13 : decode cX3_canLookLike 13 = .ok (.lload_n 1, 1) := by decide +kernel
theorem dX3_canLookLike_14 : decode cX3_canLookLike 14 = .ok (.iload_n 3, 1) := by decide +kernel
theorem dX3_canLookLike_15 : decode cX3_canLookLike 15 = .ok (.iload 4, 2) := by decide +kernel
theorem dX3_canLookLike_17 : decode cX3_canLookLike 17 = .ok (.invokevirtual 43, 3) := by decide +kernel
theorem dX3_canLookLike_20 : decode cX3_canLookLike 20 = .ok (.ifCond .eq 5, 3) := by decide +kernel
theorem dX3_canLookLike_23 : decode cX3_canLookLike 23 = .ok (.iconst 1, 1) := by decide +kernel
theorem dX3_canLookLike_24 : decode cX3_canLookLike 24 = .ok (.ireturn, 1) := by decide +kernel
theorem dX3_canLookLike_25 : decode cX3_canLookLike 25 = .ok (.iinc 4 1, 3) := by decide +kernel
theorem dX3_canLookLike_28 : decode cX3_canLookLike 28 = .ok (.goto (-25), 3) := by decide +kernel
theorem dX3_canLookLike_31 : decode cX3_canLookLike 31 = .ok (.iconst 0, 1) := by decide +kernel
theorem dX3_canLookLike_32 : decode cX3_canLookLike 32 = .ok (.ireturn, 1) := by decide +kernel
theorem dX3_looksLike_0 : decode cX3_looksLike 0 = .ok (.iconst 0, 1) := by decide +kernel
theorem dX3_looksLike_1 : decode cX3_looksLike 1 = .ok (.istore 5, 2) := by decide +kernel
theorem dX3_looksLike_3 : decode cX3_looksLike 3 = .ok (.iload 5, 2) := by decide +kernel
theorem dX3_looksLike_5 : decode cX3_looksLike 5 = .ok (.iload_n 3, 1) := by decide +kernel
theorem dX3_looksLike_6 : decode cX3_looksLike 6 = .ok (.if_icmp .ge 43, 3) := by decide +kernel
theorem dX3_looksLike_9 : decode cX3_looksLike 9 = .ok (.lload_n 1, 1) := by decide +kernel
theorem dX3_looksLike_10 : decode cX3_looksLike 10 = .ok (.iload 5, 2) := by decide +kernel
theorem dX3_looksLike_12 : decode cX3_looksLike 12 = .ok (.lushr, 1) := by decide +kernel
theorem dX3_looksLike_13 : decode cX3_looksLike 13 = .ok (.lconst 1, 1) := by decide +kernel
theorem dX3_looksLike_14 : decode cX3_looksLike 14 = .ok (.land, 1) := by decide +kernel
theorem dX3_looksLike_15 : decode cX3_looksLike 15 = .ok (.lconst 1, 1) := by decide +kernel
theorem dX3_looksLike_16 : decode cX3_looksLike 16 = .ok (.lcmp, 1) := by decide +kernel
theorem dX3_looksLike_17 : decode cX3_looksLike 17 = .ok (.ifCond .ne 7, 3) := by decide +kernel
theorem dX3_looksLike_20 : decode cX3_looksLike 20 = .ok (.iconst 1, 1) := by decide +kernel
theorem dX3_looksLike_21 : decode cX3_looksLike 21 = .ok (.goto 4, 3) := by decide +kernel
theorem dX3_looksLike_24 : decode cX3_looksLike 24 = .ok (.iconst 0, 1) := by decide +kernel
theorem dX3_looksLike_25 : decode cX3_looksLike 25 = .ok (.istore 6, 2) := by decide +kernel
theorem dX3_looksLike_27 : decode cX3_looksLike 27 = .ok (.aload_n 0, 1) := by decide +kernel
theorem dX3_looksLike_28 : decode cX3_looksLike 28 = .ok (.iload 4, 2) := by decide +kernel
theorem dX3_looksLike_30 : decode cX3_looksLike 30 = .ok (.iload 5, 2) := by decide +kernel
theorem dX3_looksLike_32 : decode cX3_looksLike 32 = .ok (.iadd, 1) := by decide +kernel
theorem dX3_looksLike_33 : decode cX3_looksLike 33 = .ok (.invokevirtual 39, 3) := by decide +kernel
theorem dX3_looksLike_36 : decode cX3_looksLike 36 = .ok (.iload 6, 2) := by decide +kernel
theorem dX3_looksLike_38 : decode cX3_looksLike 38 = .ok (.if_icmp .eq 5, 3) := by decide +kernel
theorem dX3_looksLike_41 : decode cX3_looksLike 41 = .ok (.iconst 0, 1) := by decide +kernel
theorem dX3_looksLike_42 : decode cX3_looksLike 42 = .ok (.ireturn, 1) := by decide +kernel
theorem dX3_looksLike_43 : decode cX3_looksLike 43 = .ok (.iinc 5 1, 3) := by decide +kernel
theorem dX3_looksLike_46 : decode cX3_looksLike 46 = .ok (.goto (-43), 3) := by decide +kernel
theorem dX3_looksLike_49 : decode cX3_looksLike 49 = .ok (.iconst 1, 1) := by decide +kernel
theorem dX3_looksLike_50 : decode cX3_looksLike 50 = .ok (.ireturn, 1) := by decide +kernel
theorem dX4_init_0 : decode cX4_init 0 = .ok (.aload_n 0, 1) := by decide +kernel
theorem dX4_init_1 : decode cX4_init 1 = .ok (.invokespecial 1, 3) := by decide +kernel
theorem dX4_init_4 : decode cX4_init 4 = .ok (.aload_n 0, 1) := by decide +kernel
theorem dX4_init_5 : decode cX4_init 5 = .ok (.bipush 6, 2) := by decide +kernel
theorem dX4_init_7 : decode cX4_init 7 = .ok (.newarray .int, 2) := by decide +kernel
theorem dX4_init_9 : decode cX4_init 9 = .ok (.putfield 9, 3) := by decide +kernel
theorem dX4_init_12 : decode cX4_init 12 = .ok (.aload_n 0, 1) := by decide +kernel
theorem dX4_init_13 : decode cX4_init 13 = .ok (.iconst 0, 1) := by decide +kernel
theorem dX4_init_14 : decode cX4_init 14 = .ok (.putfield 13, 3) := by decide +kernel
theorem dX4_init_17 : decode cX4_init 17 = .ok (.aload_n 0, 1) := by decide +kernel
theorem dX4_init_18 : decode cX4_init 18 = .ok (.new 17, 3) := by decide +kernel
theorem dX4_init_21 : decode cX4_init 21 = .ok (.dup, 1) := by decide +kernel
theorem dX4_init_22 : decode cX4_init 22 = .ok (.invokespecial 19, 3) := by decide +kernel
theorem dX4_init_25 : decode cX4_init 25 = .ok (.putfield 20, 3) := by decide +kernel
theorem dX4_init_28 : decode cX4_init 28 = .ok (.aload_n 0, 1) := by decide +kernel
theorem dX4_init_29 : decode cX4_init 29 = .ok (.new 17, 3) := by decide +kernel
theorem dX4_init_32 : decode cX4_init 32 = .ok (.dup, 1) := by decide +kernel
theorem dX4_init_33 : decode cX4_init 33 = .ok (.invokespecial 19, 3) := by decide +kernel
theorem dX4_init_36 : decode cX4_init 36 = .ok (.putfield 24, 3) := by decide +kernel
theorem dX4_init_39 : decode cX4_init 39 = .ok (.aload_n 0, 1) := by decide +kernel
theorem dX4_init_40 : decode cX4_init 40 = .ok (.new 17, 3) := by decide +kernel
theorem dX4_init_43 : decode cX4_init 43 = .ok (.dup, 1) := by decide +kernel
theorem dX4_init_44 : decode cX4_init 44 = .ok (.invokespecial 19, 3) := by decide +kernel
theorem dX4_init_47 : decode cX4_init 47 = .ok (.putfield 27, 3) := by decide +kernel
theorem dX4_init_50 : decode cX4_init 50 = .ok (.aload_n 0, 1) := by decide +kernel
theorem dX4_init_51 : decode cX4_init 51 = .ok (.new 17, 3) := by decide +kernel
theorem dX4_init_54 : decode cX4_init 54 = .ok (.dup, 1) := by decide +kernel
theorem dX4_init_55 : decode cX4_init 55 = .ok (.invokespecial 19, 3) := by decide +kernel
theorem dX4_init_58 : decode cX4_init 58 = .ok (.putfield 30, 3) := by decide +kernel
theorem dX4_init_61 : decode cX4_init 61 = .ok (.return_, 1) := by decide +kernel
theorem dX4_phase_0 : decode cX4_phase 0 = .ok (.iload_n 1, 1) := by decide +kernel
theorem dX4_phase_1 : decode cX4_phase 1 = .ok (.iconst 1, 1) := by decide +kernel
theorem dX4_phase_2 : decode cX4_phase 2 = .ok (.bipush 9, 2) := by decide +kernel
theorem dX4_phase_4 : decode cX4_phase 4 = .ok (.invokestatic 33, 3) := by decide +kernel
theorem dX4_phase_7 : decode cX4_phase 7 = .ok (.aload_n 0, 1) := by decide +kernel
theorem dX4_phase_8 : decode cX4_phase 8 = .ok (.getfield 13, 3) := by decide +kernel
theorem dX4_phase_11 : decode cX4_phase 11 = .ok (.aload_n 0, 1) := by decide +kernel
theorem dX4_phase_12 : decode cX4_phase 12 = .ok (.getfield 9, 3) := by decide +kernel
theorem dX4_phase_15 : decode cX4_phase 15 = .ok (.arraylength, 1) := by decide +kernel
theorem dX4_phase_16 : decode cX4_phase 16 = .ok (.if_icmp .lt 13, 3) := by decide +kernel
theorem dX4_phase_19 : decode cX4_phase 19 = .ok (.new 37, 3) := by decide +kernel
theorem dX4_phase_22 : decode cX4_phase 22 = .ok (.dup, 1) := by decide +kernel
theorem dX4_phase_23 : decode cX4_phase 23 = .ok (.ldc 39, 2) := by decide +kernel
theorem dX4_phase_25 : decode cX4_phase 25 = .ok (.invokespecial 41, 3) := by decide +kernel
theorem dX4_phase_28 : decode cX4_phase 28 = .ok (.athrow, 1) := by decide +kernel
theorem dX4_phase_29 : decode cX4_phase 29 = .ok (.aload_n 0, 1) := by decide +kernel
theorem dX4_phase_30 : decode cX4_phase 30 = .ok (.getfield 9, 3) := by decide +kernel
theorem dX4_phase_33 : decode cX4_phase 33 = .ok (.aload_n 0, 1) := by decide +kernel
theorem dX4_phase_34 : decode cX4_phase 34 = .ok (.getfield 13, 3) := by decide +kernel
theorem dX4_phase_37 : decode cX4_phase 37 = .ok (.iload_n 1, 1) := by decide +kernel
theorem dX4_phase_38 : decode cX4_phase 38 = .ok (.iastore, 1) := by decide +kernel
theorem dX4_phase_39 : decode cX4_phase 39 = .ok (.aload_n 0, 1) := by decide +kernel
theorem dX4_phase_40 : decode cX4_phase 40 = .ok (.dup, 1) := by decide +kernel
theorem dX4_phase_41 : decode cX4_phase 41 = .ok (.getfield 13, 3) := by decide +kernel
theorem dX4_phase_44 : decode cX4_phase 44 = .ok (.iconst 1, 1) := by decide +kernel
theorem dX4_phase_45 : decode cX4_phase 45 = .ok (.iadd, 1) := by decide +kernel
theorem dX4_phase_46 : decode cX4_phase 46 = .ok (.putfield 13, 3) := by decide +kernel
theorem dX4_phase_49 : decode cX4_phase 49 = .ok (.aload_n 0, 1) := by decide +kernel
theorem dX4_phase_50 : decode cX4_phase 50 = .ok (.getfield 13, 3) := by decide +kernel
theorem dX4_phase_53 : decode cX4_phase 53 = .ok (.ireturn, 1) := by decide +kernel
theorem dX4_pattern_0 : decode cX4_pattern 0 = .ok (.aload_n 0, 1) := by decide +kernel
theorem dX4_pattern_1 : decode cX4_pattern 1 = .ok (.getfield 13, 3) := by decide +kernel
theorem dX4_pattern_4 : decode cX4_pattern 4 = .ok (.iconst 2, 1) := by decide +kernel
theorem dX4_pattern_5 : decode cX4_pattern 5 = .ok (.if_icmp .lt 12, 3) := by decide +kernel
theorem dX4_pattern_8 : decode cX4_pattern 8 = .ok (.aload_n 0, 1) := by decide +kernel
theorem dX4_pattern_9 : decode cX4_pattern 9 = .ok (.getfield 13, 3) := by decide +kernel
theorem dX4_pattern_12 : decode cX4_pattern 12 = .ok (.iconst 2, 1) := by decide +kernel
theorem dX4_pattern_13 : decode cX4_pattern 13 = .ok (.irem, 1) := by decide +kernel
theorem dX4_pattern_14 : decode cX4_pattern 14 = .ok (.ifCond .eq 13, 3) := by decide +kernel
theorem dX4_pattern_17 : decode cX4_pattern 17 = .ok (.new 37, 3) := by decide +kernel
theorem dX4_pattern_20 : decode cX4_pattern 20 = .ok (.dup, 1) := by decide +kernel
theorem dX4_pattern_21 : decode cX4_pattern 21 = .ok (.ldc 44, 2) := by decide +kernel
theorem dX4_pattern_23 : decode cX4_pattern 23 = .ok (.invokespecial 41, 3) := by decide +kernel
theorem dX4_pattern_26 : decode cX4_pattern 26 = .ok (.athrow, 1) := by decide +kernel
theorem dX4_pattern_27 : decode cX4_pattern 27 = .ok (.aload_n 0, 1) := by decide +kernel
theorem dX4_pattern_28 : decode cX4_pattern 28 = .ok (.getfield 20, 3) := by decide +kernel
theorem dX4_pattern_31 : decode cX4_pattern 31 = .ok (.invokevirtual 46, 3) := by decide +kernel
theorem dX4_pattern_34 : decode cX4_pattern 34 = .ok (.bipush 20, 2) := by decide +kernel
theorem dX4_pattern_36 : decode cX4_pattern 36 = .ok (.if_icmp .lt 13, 3) := by decide +kernel
theorem dX4_pattern_39 : decode cX4_pattern 39 = .ok (.new 37, 3) := by decide +kernel
theorem dX4_pattern_42 : decode cX4_pattern 42 = .ok (.dup, 1) := by decide +kernel
theorem dX4_pattern_43 : decode cX4_pattern 43 = .ok (.ldc 50, 2) := by decide +kernel
theorem dX4_pattern_45 : decode cX4_pattern 45 = .ok (.invokespecial 41, 3) := by decide +kernel
theorem dX4_pattern_48 : decode cX4_pattern 48 = .ok (.athrow, 1) := by decide +kernel
theorem dX4_pattern_49 : decode cX4_pattern 49 = .ok (.aload_n 0, 1) := by decide +kernel
theorem dX4_pattern_50 : decode cX4_pattern 50 = .ok (.getfield 20, 3) := by decide +kernel
theorem dX4_pattern_53 : decode cX4_pattern 53 = .ok (.new 52, 3) := by decide +kernel
theorem dX4_pattern_56 : decode cX4_pattern 56 = .ok (.dup, 1) := by decide +kernel
theorem dX4_pattern_57 : decode cX4_pattern 57 = .ok (.aload_n 0, 1) := by decide +kernel
theorem dX4_pattern_58 : decode cX4_pattern 58 = .ok (.getfield 9, 3) := by decide +kernel
theorem dX4_pattern_61 : decode cX4_pattern 61 = .ok (.aload_n 0, 1) := by decide +kernel
theorem dX4_pattern_62 : decode cX4_pattern 62 = .ok (.getfield 13, 3) := by decide +kernel
theorem dX4_pattern_65 : decode cX4_pattern 65 = .ok (.invokestatic 54, 3) := by decide +kernel
theorem dX4_pattern_68 : decode cX4_pattern 68 = .ok (.invokespecial 60, 3) := by decide +kernel
theorem dX4_pattern_71 : decode cX4_pattern 71 = .ok (.invokevirtual 63, 3) := by decide +kernel
theorem dX4_pattern_74 : decode cX4_pattern 74 = .ok (.pop, 1) := by decide +kernel
theorem dX4_pattern_75 : decode cX4_pattern 75 = .ok (.aload_n 0, 1) := by decide +kernel
theorem dX4_pattern_76 : decode cX4_pattern 76 = .ok (.iconst 0, 1) := by decide +kernel
theorem dX4_pattern_77 : decode cX4_pattern 77 = .ok (.putfield 13, 3) := by decide +kernel
theorem dX4_pattern_80 : decode cX4_pattern 80 = .ok (.aload_n 0, 1) := by decide +kernel
theorem dX4_pattern_81 : decode cX4_pattern 81 = .ok (.getfield 20, 3) := by decide +kernel
theorem dX4_pattern_84 : decode cX4_pattern 84 = .ok (.invokevirtual 46, 3) := by decide +kernel
theorem dX4_pattern_87 : decode cX4_pattern 87 = .ok (.iconst 1, 1) := by decide +kernel
theorem dX4_pattern_88 : decode cX4_pattern 88 = .ok (.isub, 1) := by decide +kernel
theorem dX4_pattern_89 : decode cX4_pattern 89 = .ok (.ireturn, 1) := by decide +kernel
theorem dX4_period_0 : decode cX4_period 0 = .ok (.aload_n 0, 1) := by decide +kernel
theorem dX4_period_1 : decode cX4_period 1 = .ok (.iload_n 1, 1) := by decide +kernel
theorem dX4_period_2 : decode cX4_period 2 = .ok (.invokevirtual 67, 3) := by decide +kernel
theorem dX4_period_5 : decode cX4_period 5 = .ok (.getfield 71, 3) := by decide +kernel
theorem dX4_period_8 : decode cX4_period 8 = .ok (.ireturn, 1) := by decide +kernel
theorem dX4_areAlike_0 : decode cX4_areAlike 0 = .ok (.aload_n 0, 1) := by decide +kernel
theorem dX4_areAlike_1 : decode cX4_areAlike 1 = .ok (.iload_n 1, 1) := by decide +kernel
theorem dX4_areAlike_2 : decode cX4_areAlike 2 = .ok (.invokevirtual 67, 3) := by decide +kernel
theorem dX4_areAlike_5 : decode cX4_areAlike 5 = .ok (.aload_n 0, 1) := by decide +kernel
theorem dX4_areAlike_6 : decode cX4_areAlike 6 = .ok (.iload_n 2, 1) := by decide +kernel
theorem dX4_areAlike_7 : decode cX4_areAlike 7 = .ok (.invokevirtual 67, 3) := by decide +kernel
theorem dX4_areAlike_10 : decode cX4_areAlike 10 = .ok (.invokevirtual 74, 3) := by decide +kernel
theorem dX4_areAlike_13 : decode cX4_areAlike 13 = .ok (.ireturn, 1) := by decide +kernel
theorem dX4_areAlikeBySeconds_0 : decode cX4_areAlikeBySeconds 0 = .ok (.aload_n 0, 1) := by decide +kernel
theorem dX4_areAlikeBySeconds_1 : decode cX4_areAlikeBySeconds 1 = .ok (.iload_n 1, 1) := by decide +kernel
theorem dX4_areAlikeBySeconds_2 : decode cX4_areAlikeBySeconds 2 = .ok (.invokevirtual 67, 3) := by decide +kernel
theorem dX4_areAlikeBySeconds_5 : decode cX4_areAlikeBySeconds 5 = .ok (.aload_n 0, 1) := by decide +kernel
theorem dX4_areAlikeBySeconds_6 : decode cX4_areAlikeBySeconds 6 = .ok (.iload_n 2, 1) := by decide +kernel
theorem dX4_areAlikeBySeconds_7 : decode cX4_areAlikeBySeconds 7 = .ok (.invokevirtual 67, 3) := by decide +kernel
theorem dX4_areAlikeBySeconds_10 : decode cX4_areAlikeBySeconds 10 = .ok (.invokevirtual 78, 3) := by decide +kernel
theorem dX4_areAlikeBySeconds_13 : decode cX4_areAlikeBySeconds 13 = .ok (.ireturn, 1) := by decide +kernel
theorem dX4_lamp_0 : decode cX4_lamp 0 = .ok (.aload_n 0, 1) := by decide +kernel
theorem dX4_lamp_1 : decode cX4_lamp 1 = .ok (.iload_n 3, 1) := by decide +kernel
theorem dX4_lamp_2 : decode cX4_lamp 2 = .ok (.invokevirtual 81, 3) := by decide +kernel
theorem dX4_lamp_5 : decode cX4_lamp 5 = .ok (.iload_n 1, 1) := by decide +kernel
theorem dX4_lamp_6 : decode cX4_lamp 6 = .ok (.iload_n 2, 1) := by decide +kernel
theorem dX4_lamp_7 : decode cX4_lamp 7 = .ok (.invokestatic 85, 3) := by decide +kernel
theorem dX4_lamp_10 : decode cX4_lamp 10 = .ok (.iload 4, 2) := by decide +kernel
theorem dX4_lamp_12 : decode cX4_lamp 12 = .ok (.iconst 1, 1) := by decide +kernel
theorem dX4_lamp_13 : decode cX4_lamp 13 = .ok (.bipush 40, 2) := by decide +kernel
theorem dX4_lamp_15 : decode cX4_lamp 15 = .ok (.invokestatic 33, 3) := by decide +kernel
theorem dX4_lamp_18 : decode cX4_lamp 18 = .ok (.iload 5, 2) := by decide +kernel
theorem dX4_lamp_20 : decode cX4_lamp 20 = .ok (.iconst 1, 1) := by decide +kernel
theorem dX4_lamp_21 : decode cX4_lamp 21 = .ok (.sipush 255, 3) := by decide +kernel
theorem dX4_lamp_24 : decode cX4_lamp 24 = .ok (.invokestatic 33, 3) := by decide +kernel
theorem dX4_lamp_27 : decode cX4_lamp 27 = .ok (.aload_n 0, 1) := by decide +kernel
theorem dX4_lamp_28 : decode cX4_lamp 28 = .ok (.getfield 24, 3) := by decide +kernel
theorem dX4_lamp_31 : decode cX4_lamp 31 = .ok (.invokevirtual 46, 3) := by decide +kernel
theorem dX4_lamp_34 : decode cX4_lamp 34 = .ok (.bipush 12, 2) := by decide +kernel
theorem dX4_lamp_36 : decode cX4_lamp 36 = .ok (.if_icmp .lt 13, 3) := by decide +kernel
theorem dX4_lamp_39 : decode cX4_lamp 39 = .ok (.new 37, 3) := by decide +kernel
theorem dX4_lamp_42 : decode cX4_lamp 42 = .ok (.dup, 1) := by decide +kernel
theorem dX4_lamp_43 : decode cX4_lamp 43 = .ok (.ldc 89, 2) := by decide +kernel
theorem dX4_lamp_45 : decode cX4_lamp 45 = .ok (.invokespecial 41, 3) := by decide +kernel
theorem dX4_lamp_48 : decode cX4_lamp 48 = .ok (.athrow, 1) := by decide +kernel
theorem dX4_lamp_49 : decode cX4_lamp 49 = .ok (.aload_n 0, 1) := by decide +kernel
theorem dX4_lamp_50 : decode cX4_lamp 50 = .ok (.getfield 24, 3) := by decide +kernel
theorem dX4_lamp_53 : decode cX4_lamp 53 = .ok (.invokevirtual 46, 3) := by decide +kernel
theorem dX4_lamp_56 : decode cX4_lamp 56 = .ok (.istore 6, 2) := by decide +kernel
theorem dX4_lamp_58 : decode cX4_lamp 58 = .ok (.aload_n 0, 1) := by decide +kernel
theorem dX4_lamp_59 : decode cX4_lamp 59 = .ok (.getfield 24, 3) := by decide +kernel
theorem dX4_lamp_62 : decode cX4_lamp 62 = .ok (.new 91, 3) := by decide +kernel
theorem dX4_lamp_65 : decode cX4_lamp 65 = .ok (.dup, 1) := by decide +kernel
theorem dX4_lamp_66 : decode cX4_lamp 66 = .ok (.iload_n 1, 1) := by decide +kernel
theorem dX4_lamp_67 : decode cX4_lamp 67 = .ok (.iload_n 2, 1) := by decide +kernel
theorem dX4_lamp_68 : decode cX4_lamp 68 = .ok (.iload_n 3, 1) := by decide +kernel
theorem dX4_lamp_69 : decode cX4_lamp 69 = .ok (.iload 4, 2) := by decide +kernel
theorem dX4_lamp_71 : decode cX4_lamp 71 = .ok (.iload 5, 2) := by decide +kernel
theorem dX4_lamp_73 : decode cX4_lamp 73 = .ok (.invokespecial 93, 3) := by decide +kernel
theorem dX4_lamp_76 : decode cX4_lamp 76 = .ok (.invokevirtual 63, 3) := by decide +kernel
theorem dX4_lamp_79 : decode cX4_lamp 79 = .ok (.pop, 1) := by decide +kernel
theorem dX4_lamp_80 : decode cX4_lamp 80 = .ok (.aload_n 0, 1) := by decide +kernel
theorem dX4_lamp_81 : decode cX4_lamp 81 = .ok (.iload 6, 2) := by decide +kernel
theorem dX4_lamp_83 : decode cX4_lamp 83 = .ok (.invokevirtual 96, 3) := by decide +kernel
theorem dX4_lamp_86 : decode cX4_lamp 86 = .ok (.pop, 1) := by decide +kernel
theorem dX4_lamp_87 : decode cX4_lamp 87 = .ok (.iload 6, 2) := by decide +kernel
theorem dX4_lamp_89 : decode cX4_lamp 89 = .ok (.ireturn, 1) := by decide +kernel
theorem dX4_change_0 : decode cX4_change 0 = .ok (.aload_n 0, 1) := by decide +kernel
theorem dX4_change_1 : decode cX4_change 1 = .ok (.iload_n 1, 1) := by decide +kernel
theorem dX4_change_2 : decode cX4_change 2 = .ok (.invokevirtual 100, 3) := by decide +kernel
theorem dX4_change_5 : decode cX4_change 5 = .ok (.astore 4, 2) := by decide +kernel
theorem dX4_change_7 : decode cX4_change 7 = .ok (.aload_n 0, 1) := by decide +kernel
theorem dX4_change_8 : decode cX4_change 8 = .ok (.iload_n 2, 1) := by decide +kernel
theorem dX4_change_9 : decode cX4_change 9 = .ok (.invokevirtual 81, 3) := by decide +kernel
theorem dX4_change_12 : decode cX4_change 12 = .ok (.iload_n 3, 1) := by decide +kernel
theorem dX4_change_13 : decode cX4_change 13 = .ok (.iconst 0, 1) := by decide +kernel
theorem dX4_change_14 : decode cX4_change 14 = .ok (.bipush 59, 2) := by decide +kernel
theorem dX4_change_16 : decode cX4_change 16 = .ok (.invokestatic 33, 3) := by decide +kernel
theorem dX4_change_19 : decode cX4_change 19 = .ok (.aload 4, 2) := by decide +kernel
theorem dX4_change_21 : decode cX4_change 21 = .ok (.iload_n 2, 1) := by decide +kernel
theorem dX4_change_22 : decode cX4_change 22 = .ok (.putfield 104, 3) := by decide +kernel
theorem dX4_change_25 : decode cX4_change 25 = .ok (.aload 4, 2) := by decide +kernel
theorem dX4_change_27 : decode cX4_change 27 = .ok (.iload_n 3, 1) := by decide +kernel
theorem dX4_change_28 : decode cX4_change 28 = .ok (.putfield 107, 3) := by decide +kernel
theorem dX4_change_31 : decode cX4_change 31 = .ok (.aload_n 0, 1) := by decide +kernel
theorem dX4_change_32 : decode cX4_change 32 = .ok (.iload_n 1, 1) := by decide +kernel
theorem dX4_change_33 : decode cX4_change 33 = .ok (.invokevirtual 96, 3) := by decide +kernel
theorem dX4_change_36 : decode cX4_change 36 = .ok (.ireturn, 1) := by decide +kernel
theorem dX4_fail_0 : decode cX4_fail 0 = .ok (.aload_n 0, 1) := by decide +kernel
theorem dX4_fail_1 : decode cX4_fail 1 = .ok (.iload_n 1, 1) := by decide +kernel
theorem dX4_fail_2 : decode cX4_fail 2 = .ok (.invokevirtual 100, 3) := by decide +kernel
theorem dX4_fail_5 : decode cX4_fail 5 = .ok (.astore_n 3, 1) := by decide +kernel
theorem dX4_fail_6 : decode cX4_fail 6 = .ok (.aload_n 3, 1) := by decide +kernel
theorem dX4_fail_7 : decode cX4_fail 7 = .ok (.getfield 110, 3) := by decide +kernel
theorem dX4_fail_10 : decode cX4_fail 10 = .ok (.iload_n 2, 1) := by decide +kernel
theorem dX4_fail_11 : decode cX4_fail 11 = .ok (.if_icmp .ne 13, 3) := by decide +kernel
theorem dX4_fail_14 : decode cX4_fail 14 = .ok (.new 37, 3) := by decide +kernel
theorem dX4_fail_17 : decode cX4_fail 17 = .ok (.dup, 1) := by decide +kernel
theorem dX4_fail_18 : decode cX4_fail 18 = .ok (.ldc 114, 2) := by decide +kernel
theorem dX4_fail_20 : decode cX4_fail 20 = .ok (.invokespecial 41, 3) := by decide +kernel
theorem dX4_fail_23 : decode cX4_fail 23 = .ok (.athrow, 1) := by decide +kernel
theorem dX4_fail_24 : decode cX4_fail 24 = .ok (.aload_n 3, 1) := by decide +kernel
theorem dX4_fail_25 : decode cX4_fail 25 = .ok (.iload_n 2, 1) := by decide +kernel
theorem dX4_fail_26 : decode cX4_fail 26 = .ok (.putfield 110, 3) := by decide +kernel
theorem dX4_fail_29 : decode cX4_fail 29 = .ok (.aload_n 0, 1) := by decide +kernel
theorem dX4_fail_30 : decode cX4_fail 30 = .ok (.iload_n 1, 1) := by decide +kernel
theorem dX4_fail_31 : decode cX4_fail 31 = .ok (.invokevirtual 96, 3) := by decide +kernel
theorem dX4_fail_34 : decode cX4_fail 34 = .ok (.ireturn, 1) := by decide +kernel
theorem dX4_shines_0 : decode cX4_shines 0 = .ok (.aload_n 0, 1) := by decide +kernel
theorem dX4_shines_1 : decode cX4_shines 1 = .ok (.iload_n 1, 1) := by decide +kernel
theorem dX4_shines_2 : decode cX4_shines 2 = .ok (.invokevirtual 100, 3) := by decide +kernel
theorem dX4_shines_5 : decode cX4_shines 5 = .ok (.astore_n 3, 1) := by decide +kernel
theorem dX4_shines_6 : decode cX4_shines 6 = .ok (.iload_n 2, 1) := by decide +kernel
theorem dX4_shines_7 : decode cX4_shines 7 = .ok (.iconst 0, 1) := by decide +kernel
theorem dX4_shines_8 : decode cX4_shines 8 = .ok (.ldc 116, 2) := by decide +kernel
theorem dX4_shines_10 : decode cX4_shines 10 = .ok (.invokestatic 33, 3) := by decide +kernel
theorem dX4_shines_13 : decode cX4_shines 13 = .ok (.aload_n 0, 1) := by decide +kernel
theorem dX4_shines_14 : decode cX4_shines 14 = .ok (.aload_n 3, 1) := by decide +kernel
theorem dX4_shines_15 : decode cX4_shines 15 = .ok (.iload_n 2, 1) := by decide +kernel
theorem dX4_shines_16 : decode cX4_shines 16 = .ok (.invokevirtual 117, 3) := by decide +kernel
theorem dX4_shines_19 : decode cX4_shines 19 = .ok (.ireturn, 1) := by decide +kernel
theorem dX4_sector_0 : decode cX4_sector 0 = .ok (.aload_n 0, 1) := by decide +kernel
theorem dX4_sector_1 : decode cX4_sector 1 = .ok (.iload_n 1, 1) := by decide +kernel
theorem dX4_sector_2 : decode cX4_sector 2 = .ok (.invokevirtual 100, 3) := by decide +kernel
theorem dX4_sector_5 : decode cX4_sector 5 = .ok (.astore 4, 2) := by decide +kernel
theorem dX4_sector_7 : decode cX4_sector 7 = .ok (.iload_n 2, 1) := by decide +kernel
theorem dX4_sector_8 : decode cX4_sector 8 = .ok (.iload_n 3, 1) := by decide +kernel
theorem dX4_sector_9 : decode cX4_sector 9 = .ok (.invokestatic 85, 3) := by decide +kernel
theorem dX4_sector_12 : decode cX4_sector 12 = .ok (.iload_n 2, 1) := by decide +kernel
theorem dX4_sector_13 : decode cX4_sector 13 = .ok (.aload 4, 2) := by decide +kernel
theorem dX4_sector_15 : decode cX4_sector 15 = .ok (.getfield 121, 3) := by decide +kernel
theorem dX4_sector_18 : decode cX4_sector 18 = .ok (.isub, 1) := by decide +kernel
theorem dX4_sector_19 : decode cX4_sector 19 = .ok (.iload_n 3, 1) := by decide +kernel
theorem dX4_sector_20 : decode cX4_sector 20 = .ok (.aload 4, 2) := by decide +kernel
theorem dX4_sector_22 : decode cX4_sector 22 = .ok (.getfield 124, 3) := by decide +kernel
theorem dX4_sector_25 : decode cX4_sector 25 = .ok (.isub, 1) := by decide +kernel
theorem dX4_sector_26 : decode cX4_sector 26 = .ok (.invokestatic 127, 3) := by decide +kernel
theorem dX4_sector_29 : decode cX4_sector 29 = .ok (.ireturn, 1) := by decide +kernel
theorem dX4_isSeen_0 : decode cX4_isSeen 0 = .ok (.aload_n 0, 1) := by decide +kernel
theorem dX4_isSeen_1 : decode cX4_isSeen 1 = .ok (.iload_n 1, 1) := by decide +kernel
theorem dX4_isSeen_2 : decode cX4_isSeen 2 = .ok (.invokevirtual 100, 3) := by decide +kernel
theorem dX4_isSeen_5 : decode cX4_isSeen 5 = .ok (.astore 4, 2) := by decide +kernel
theorem dX4_isSeen_7 : decode cX4_isSeen 7 = .ok (.iload_n 2, 1) := by decide +kernel
theorem dX4_isSeen_8 : decode cX4_isSeen 8 = .ok (.iload_n 3, 1) := by decide +kernel
theorem dX4_isSeen_9 : decode cX4_isSeen 9 = .ok (.invokestatic 85, 3) := by decide +kernel
theorem dX4_isSeen_12 : decode cX4_isSeen 12 = .ok (.aload 4, 2) := by decide +kernel
theorem dX4_isSeen_14 : decode cX4_isSeen 14 = .ok (.iload_n 2, 1) := by decide +kernel
theorem dX4_isSeen_15 : decode cX4_isSeen 15 = .ok (.iload_n 3, 1) := by decide +kernel
theorem dX4_isSeen_16 : decode cX4_isSeen 16 = .ok (.invokevirtual 131, 3) := by decide +kernel
theorem dX4_isSeen_19 : decode cX4_isSeen 19 = .ok (.ireturn, 1) := by decide +kernel
theorem dX4_common_0 : decode cX4_common 0 = .ok (.aload_n 0, 1) := by decide +kernel
theorem dX4_common_1 : decode cX4_common 1 = .ok (.iload_n 1, 1) := by decide +kernel
theorem dX4_common_2 : decode cX4_common 2 = .ok (.invokevirtual 100, 3) := by decide +kernel
theorem dX4_common_5 : decode cX4_common 5 = .ok (.aload_n 0, 1) := by decide +kernel
theorem dX4_common_6 : decode cX4_common 6 = .ok (.iload_n 2, 1) := by decide +kernel
theorem dX4_common_7 : decode cX4_common 7 = .ok (.invokevirtual 100, 3) := by decide +kernel
theorem dX4_common_10 : decode cX4_common 10 = .ok (.invokevirtual 135, 3) := by decide +kernel
theorem dX4_common_13 : decode cX4_common 13 = .ok (.ireturn, 1) := by decide +kernel
theorem dX4_clashes_0 : decode cX4_clashes 0 = .ok (.iconst 0, 1) := by decide +kernel
theorem dX4_clashes_1 : decode cX4_clashes 1 = .ok (.istore_n 1, 1) := by decide +kernel
theorem dX4_clashes_2 : decode cX4_clashes 2 = .ok (.iconst 0, 1) := by decide +kernel
theorem dX4_clashes_3 : decode cX4_clashes 3 = .ok (.istore_n 2, 1) := by decide +kernel
theorem dX4_clashes_4 : decode cX4_clashes 4 = .ok (.iload_n 2, 1) := by decide +kernel
theorem dX4_clashes_5 : decode cX4_clashes 5 = .ok (.aload_n 0, 1) := by decide +kernel
theorem dX4_clashes_6 : decode cX4_clashes 6 = .ok (.getfield 24, 3) := by decide +kernel
theorem dX4_clashes_9 : decode cX4_clashes 9 = .ok (.invokevirtual 46, 3) := by decide +kernel
theorem dX4_clashes_12 : decode cX4_clashes 12 = .ok (.if_icmp .ge 62, 3) := by decide +kernel
theorem dX4_clashes_15 : decode cX4_clashes 15 = .ok (.iload_n 2, 1) := by decide +kernel
theorem dX4_clashes_16 : decode cX4_clashes 16 = .ok (.iconst 1, 1) := by decide +kernel
theorem dX4_clashes_17 : decode cX4_clashes 17 = .ok (.iadd, 1) := by decide +kernel
theorem dX4_clashes_18 : decode cX4_clashes 18 = .ok (.istore_n 3, 1) := by decide +kernel
theorem dX4_clashes_19 : decode cX4_clashes 19 = .ok (.iload_n 3, 1) := by decide +kernel
theorem dX4_clashes_20 : decode cX4_clashes 20 = .ok (.aload_n 0, 1) := by decide +kernel
theorem dX4_clashes_21 : decode cX4_clashes 21 = .ok (.getfield 24, 3) := by decide +kernel
theorem dX4_clashes_24 : decode cX4_clashes 24 = .ok (.invokevirtual 46, 3) := by decide +kernel
theorem dX4_clashes_27 : decode cX4_clashes 27 = .ok (.if_icmp .ge 41, 3) := by decide +kernel
theorem dX4_clashes_30 : decode cX4_clashes 30 = .ok (.aload_n 0, 1) := by decide +kernel
theorem dX4_clashes_31 : decode cX4_clashes 31 = .ok (.aload_n 0, 1) := by decide +kernel
theorem dX4_clashes_32 : decode cX4_clashes 32 = .ok (.getfield 24, 3) := by decide +kernel
theorem dX4_clashes_35 : decode cX4_clashes 35 = .ok (.iload_n 2, 1) := by decide +kernel
theorem dX4_clashes_36 : decode cX4_clashes 36 = .ok (.invokevirtual 139, 3) := by decide +kernel
theorem dX4_clashes_39 : decode cX4_clashes 39 = .ok (.checkcast 91, 3) := by decide +kernel
theorem dX4_clashes_42 : decode cX4_clashes 42 = .ok (.aload_n 0, 1) := by decide +kernel
theorem dX4_clashes_43 : decode cX4_clashes 43 = .ok (.getfield 24, 3) := by decide +kernel
theorem dX4_clashes_46 : decode cX4_clashes 46 = .ok (.iload_n 3, 1) := by decide +kernel
theorem dX4_clashes_47 : decode cX4_clashes 47 = .ok (.invokevirtual 139, 3) := by decide +kernel
theorem dX4_clashes_50 : decode cX4_clashes 50 = .ok (.checkcast 91, 3) := by decide +kernel
theorem dX4_clashes_53 : decode cX4_clashes 53 = .ok (.invokevirtual 143, 3) := by decide +kernel
theorem dX4_clashes_56 : decode cX4_clashes 56 = .ok (.ifCond .eq 6, 3) := by decide +kernel
theorem dX4_clashes_59 : decode cX4_clashes 59 = .ok (.iinc 1 1, 3) := by decide +kernel
theorem dX4_clashes_62 : decode cX4_clashes 62 = .ok (.iinc 3 1, 3) := by decide +kernel
theorem dX4_clashes_65 : decode cX4_clashes 65 = .ok (.goto (-46), 3) := by decide +kernel
theorem dX4_clashes_68 : decode cX4_clashes 68 = .ok (.iinc 2 1, 3) := by decide +kernel
theorem dX4_clashes_71 : decode cX4_clashes 71 = .ok (.goto (-67), 3) := by decide +kernel
theorem dX4_clashes_74 : decode cX4_clashes 74 = .ok (.iload_n 1, 1) := by decide +kernel
theorem dX4_clashes_75 : decode cX4_clashes 75 = .ok (.ireturn, 1) := by decide +kernel
theorem dX4_notices_0 : decode cX4_notices 0 = .ok (.aload_n 0, 1) := by decide +kernel
theorem dX4_notices_1 : decode cX4_notices 1 = .ok (.getfield 27, 3) := by decide +kernel
theorem dX4_notices_4 : decode cX4_notices 4 = .ok (.invokevirtual 46, 3) := by decide +kernel
theorem dX4_notices_7 : decode cX4_notices 7 = .ok (.ireturn, 1) := by decide +kernel
theorem dX4_print_0 : decode cX4_print 0 = .ok (.aload_n 0, 1) := by decide +kernel
theorem dX4_print_1 : decode cX4_print 1 = .ok (.getfield 30, 3) := by decide +kernel
theorem dX4_print_4 : decode cX4_print 4 = .ok (.invokevirtual 46, 3) := by decide +kernel
theorem dX4_print_7 : decode cX4_print 7 = .ok (.bipush 10, 2) := by decide +kernel
theorem dX4_print_9 : decode cX4_print 9 = .ok (.if_icmp .lt 13, 3) := by decide +kernel
theorem dX4_print_12 : decode cX4_print 12 = .ok (.new 37, 3) := by decide +kernel
theorem dX4_print_15 : decode cX4_print 15 = .ok (.dup, 1) := by decide +kernel
theorem dX4_print_16 : decode cX4_print 16 = .ok (.ldc 147, 2) := by decide +kernel
theorem dX4_print_18 : decode cX4_print 18 = .ok (.invokespecial 41, 3) := by decide +kernel
theorem dX4_print_21 : decode cX4_print 21 = .ok (.athrow, 1) := by decide +kernel
theorem dX4_print_22 : decode cX4_print 22 = .ok (.new 149, 3) := by decide +kernel
theorem dX4_print_25 : decode cX4_print 25 = .ok (.dup, 1) := by decide +kernel
theorem dX4_print_26 : decode cX4_print 26 = .ok (.invokespecial 151, 3) := by decide +kernel
theorem dX4_print_29 : decode cX4_print 29 = .ok (.astore_n 1, 1) := by decide +kernel
theorem dX4_print_30 : decode cX4_print 30 = .ok (.aload_n 0, 1) := by decide +kernel
theorem dX4_print_31 : decode cX4_print 31 = .ok (.aload_n 1, 1) := by decide +kernel
theorem dX4_print_32 : decode cX4_print 32 = .ok (.aload_n 0, 1) := by decide +kernel
theorem dX4_print_33 : decode cX4_print 33 = .ok (.getfield 27, 3) := by decide +kernel
theorem dX4_print_36 : decode cX4_print 36 = .ok (.invokevirtual 46, 3) := by decide +kernel
theorem dX4_print_39 : decode cX4_print 39 = .ok (.invokevirtual 152, 3) := by decide +kernel
theorem dX4_print_42 : decode cX4_print 42 = .ok (.aload_n 0, 1) := by decide +kernel
theorem dX4_print_43 : decode cX4_print 43 = .ok (.getfield 30, 3) := by decide +kernel
theorem dX4_print_46 : decode cX4_print 46 = .ok (.aload_n 1, 1) := by decide +kernel
theorem dX4_print_47 : decode cX4_print 47 = .ok (.invokevirtual 63, 3) := by decide +kernel
theorem dX4_print_50 : decode cX4_print 50 = .ok (.pop, 1) := by decide +kernel
theorem dX4_print_51 : decode cX4_print 51 = .ok (.aload_n 0, 1) := by decide +kernel
theorem dX4_print_52 : decode cX4_print 52 = .ok (.getfield 30, 3) := by decide +kernel
theorem dX4_print_55 : decode cX4_print 55 = .ok (.invokevirtual 46, 3) := by decide +kernel
theorem dX4_print_58 : decode cX4_print 58 = .ok (.iconst 1, 1) := by decide +kernel
theorem dX4_print_59 : decode cX4_print 59 = .ok (.isub, 1) := by decide +kernel
theorem dX4_print_60 : decode cX4_print 60 = .ok (.ireturn, 1) := by decide +kernel
theorem dX4_correct_0 : decode cX4_correct 0 = .ok (.aload_n 0, 1) := by decide +kernel
theorem dX4_correct_1 : decode cX4_correct 1 = .ok (.iload_n 1, 1) := by decide +kernel
theorem dX4_correct_2 : decode cX4_correct 2 = .ok (.invokevirtual 156, 3) := by decide +kernel
theorem dX4_correct_5 : decode cX4_correct 5 = .ok (.astore_n 3, 1) := by decide +kernel
theorem dX4_correct_6 : decode cX4_correct 6 = .ok (.iload_n 2, 1) := by decide +kernel
theorem dX4_correct_7 : decode cX4_correct 7 = .ok (.iconst 1, 1) := by decide +kernel
theorem dX4_correct_8 : decode cX4_correct 8 = .ok (.bipush 100, 2) := by decide +kernel
theorem dX4_correct_10 : decode cX4_correct 10 = .ok (.invokestatic 33, 3) := by decide +kernel
theorem dX4_correct_13 : decode cX4_correct 13 = .ok (.iload_n 2, 1) := by decide +kernel
theorem dX4_correct_14 : decode cX4_correct 14 = .ok (.aload_n 0, 1) := by decide +kernel
theorem dX4_correct_15 : decode cX4_correct 15 = .ok (.aload_n 3, 1) := by decide +kernel
theorem dX4_correct_16 : decode cX4_correct 16 = .ok (.invokevirtual 160, 3) := by decide +kernel
theorem dX4_correct_19 : decode cX4_correct 19 = .ok (.invokestatic 164, 3) := by decide +kernel
theorem dX4_correct_22 : decode cX4_correct 22 = .ok (.istore 4, 2) := by decide +kernel
theorem dX4_correct_24 : decode cX4_correct 24 = .ok (.aload_n 0, 1) := by decide +kernel
theorem dX4_correct_25 : decode cX4_correct 25 = .ok (.aload_n 3, 1) := by decide +kernel
theorem dX4_correct_26 : decode cX4_correct 26 = .ok (.iload 4, 2) := by decide +kernel
theorem dX4_correct_28 : decode cX4_correct 28 = .ok (.invokevirtual 152, 3) := by decide +kernel
theorem dX4_correct_31 : decode cX4_correct 31 = .ok (.iload 4, 2) := by decide +kernel
theorem dX4_correct_33 : decode cX4_correct 33 = .ok (.ireturn, 1) := by decide +kernel
theorem dX4_behind_0 : decode cX4_behind 0 = .ok (.aload_n 0, 1) := by decide +kernel
theorem dX4_behind_1 : decode cX4_behind 1 = .ok (.aload_n 0, 1) := by decide +kernel
theorem dX4_behind_2 : decode cX4_behind 2 = .ok (.iload_n 1, 1) := by decide +kernel
theorem dX4_behind_3 : decode cX4_behind 3 = .ok (.invokevirtual 156, 3) := by decide +kernel
theorem dX4_behind_6 : decode cX4_behind 6 = .ok (.invokevirtual 160, 3) := by decide +kernel
theorem dX4_behind_9 : decode cX4_behind 9 = .ok (.ireturn, 1) := by decide +kernel
theorem dX4_shown_0 : decode cX4_shown 0 = .ok (.aload_n 0, 1) := by decide +kernel
theorem dX4_shown_1 : decode cX4_shown 1 = .ok (.iload_n 1, 1) := by decide +kernel
theorem dX4_shown_2 : decode cX4_shown 2 = .ok (.invokevirtual 156, 3) := by decide +kernel
theorem dX4_shown_5 : decode cX4_shown 5 = .ok (.astore_n 3, 1) := by decide +kernel
theorem dX4_shown_6 : decode cX4_shown 6 = .ok (.aload_n 0, 1) := by decide +kernel
theorem dX4_shown_7 : decode cX4_shown 7 = .ok (.iload_n 2, 1) := by decide +kernel
theorem dX4_shown_8 : decode cX4_shown 8 = .ok (.invokevirtual 169, 3) := by decide +kernel
theorem dX4_shown_11 : decode cX4_shown 11 = .ok (.aload_n 3, 1) := by decide +kernel
theorem dX4_shown_12 : decode cX4_shown 12 = .ok (.iload_n 2, 1) := by decide +kernel
theorem dX4_shown_13 : decode cX4_shown 13 = .ok (.invokevirtual 172, 3) := by decide +kernel
theorem dX4_shown_16 : decode cX4_shown 16 = .ok (.ireturn, 1) := by decide +kernel
theorem dX4_taken_0 : decode cX4_taken 0 = .ok (.aload_n 0, 1) := by decide +kernel
theorem dX4_taken_1 : decode cX4_taken 1 = .ok (.iload_n 1, 1) := by decide +kernel
theorem dX4_taken_2 : decode cX4_taken 2 = .ok (.invokevirtual 156, 3) := by decide +kernel
theorem dX4_taken_5 : decode cX4_taken 5 = .ok (.astore 7, 2) := by decide +kernel
theorem dX4_taken_7 : decode cX4_taken 7 = .ok (.aload_n 0, 1) := by decide +kernel
theorem dX4_taken_8 : decode cX4_taken 8 = .ok (.iload 4, 2) := by decide +kernel
theorem dX4_taken_10 : decode cX4_taken 10 = .ok (.invokevirtual 100, 3) := by decide +kernel
theorem dX4_taken_13 : decode cX4_taken 13 = .ok (.astore 8, 2) := by decide +kernel
theorem dX4_taken_15 : decode cX4_taken 15 = .ok (.iload_n 2, 1) := by decide +kernel
theorem dX4_taken_16 : decode cX4_taken 16 = .ok (.iload_n 3, 1) := by decide +kernel
theorem dX4_taken_17 : decode cX4_taken 17 = .ok (.invokestatic 85, 3) := by decide +kernel
theorem dX4_taken_20 : decode cX4_taken 20 = .ok (.iload 5, 2) := by decide +kernel
theorem dX4_taken_22 : decode cX4_taken 22 = .ok (.iconst 0, 1) := by decide +kernel
theorem dX4_taken_23 : decode cX4_taken 23 = .ok (.sipush 1000, 3) := by decide +kernel
theorem dX4_taken_26 : decode cX4_taken 26 = .ok (.invokestatic 33, 3) := by decide +kernel
theorem dX4_taken_29 : decode cX4_taken 29 = .ok (.iload 6, 2) := by decide +kernel
theorem dX4_taken_31 : decode cX4_taken 31 = .ok (.iconst 1, 1) := by decide +kernel
theorem dX4_taken_32 : decode cX4_taken 32 = .ok (.bipush 60, 2) := by decide +kernel
theorem dX4_taken_34 : decode cX4_taken 34 = .ok (.invokestatic 33, 3) := by decide +kernel
theorem dX4_taken_37 : decode cX4_taken 37 = .ok (.aload_n 0, 1) := by decide +kernel
theorem dX4_taken_38 : decode cX4_taken 38 = .ok (.aload 8, 2) := by decide +kernel
theorem dX4_taken_40 : decode cX4_taken 40 = .ok (.iload 5, 2) := by decide +kernel
theorem dX4_taken_42 : decode cX4_taken 42 = .ok (.iload 6, 2) := by decide +kernel
theorem dX4_taken_44 : decode cX4_taken 44 = .ok (.invokevirtual 175, 3) := by decide +kernel
theorem dX4_taken_47 : decode cX4_taken 47 = .ok (.lstore 9, 2) := by decide +kernel
theorem dX4_taken_49 : decode cX4_taken 49 = .ok (.iconst (-1), 1) := by decide +kernel
theorem dX4_taken_50 : decode cX4_taken 50 = .ok (.istore 11, 2) := by decide +kernel
theorem dX4_taken_52 : decode cX4_taken 52 = .ok (.iconst 0, 1) := by decide +kernel
theorem dX4_taken_53 : decode cX4_taken 53 = .ok (.istore 12, 2) := by decide +kernel
theorem dX4_taken_55 : decode cX4_taken 55 = .ok (.iload 12, 2) := by decide +kernel
theorem dX4_taken_57 : decode cX4_taken 57 = .ok (.aload_n 0, 1) := by decide +kernel
theorem dX4_taken_58 : decode cX4_taken 58 = .ok (.getfield 24, 3) := by decide +kernel
theorem dX4_taken_61 : decode cX4_taken 61 = .ok (.invokevirtual 46, 3) := by decide +kernel
theorem dX4_taken_64 : decode cX4_taken 64 = .ok (.if_icmp .ge 73, 3) := by decide +kernel
theorem dX4_taken_67 : decode cX4_taken 67 = .ok (.aload 7, 2) := by decide +kernel
theorem dX4_taken_69 : decode cX4_taken 69 = .ok (.iload 12, 2) := by decide +kernel
theorem dX4_taken_71 : decode cX4_taken 71 = .ok (.invokevirtual 172, 3) := by decide +kernel
theorem dX4_taken_74 : decode cX4_taken 74 = .ok (.istore 13, 2) := by decide +kernel
theorem dX4_taken_76 : decode cX4_taken 76 = .ok (.iload 13, 2) := by decide +kernel
theorem dX4_taken_78 : decode cX4_taken 78 = .ok (.iconst (-1), 1) := by decide +kernel
theorem dX4_taken_79 : decode cX4_taken 79 = .ok (.if_icmp .eq 52, 3) := by decide +kernel
theorem dX4_taken_82 : decode cX4_taken 82 = .ok (.aload_n 0, 1) := by decide +kernel
theorem dX4_taken_83 : decode cX4_taken 83 = .ok (.getfield 24, 3) := by decide +kernel
theorem dX4_taken_86 : decode cX4_taken 86 = .ok (.iload 12, 2) := by decide +kernel
theorem dX4_taken_88 : decode cX4_taken 88 = .ok (.invokevirtual 139, 3) := by decide +kernel
theorem dX4_taken_91 : decode cX4_taken 91 = .ok (.checkcast 91, 3) := by decide +kernel
theorem dX4_taken_94 : decode cX4_taken 94 = .ok (.iload_n 2, 1) := by decide +kernel
theorem dX4_taken_95 : decode cX4_taken 95 = .ok (.iload_n 3, 1) := by decide +kernel
theorem dX4_taken_96 : decode cX4_taken 96 = .ok (.invokevirtual 131, 3) := by decide +kernel
theorem dX4_taken_99 : decode cX4_taken 99 = .ok (.ifCond .eq 32, 3) := by decide +kernel
theorem dX4_taken_102 : decode cX4_taken 102 = .ok (.aload_n 0, 1) := by decide +kernel
theorem dX4_taken_103 : decode cX4_taken 103 = .ok (.iload 13, 2) := by decide +kernel
theorem dX4_taken_105 : decode cX4_taken 105 = .ok (.invokevirtual 67, 3) := by decide +kernel
theorem dX4_taken_108 : decode cX4_taken 108 = .ok (.lload 9, 2) := by decide +kernel
theorem dX4_taken_110 : decode cX4_taken 110 = .ok (.iload 6, 2) := by decide +kernel
theorem dX4_taken_112 : decode cX4_taken 112 = .ok (.invokevirtual 179, 3) := by decide +kernel
theorem dX4_taken_115 : decode cX4_taken 115 = .ok (.ifCond .eq 16, 3) := by decide +kernel
theorem dX4_taken_118 : decode cX4_taken 118 = .ok (.iload 11, 2) := by decide +kernel
theorem dX4_taken_120 : decode cX4_taken 120 = .ok (.iconst (-1), 1) := by decide +kernel
theorem dX4_taken_121 : decode cX4_taken 121 = .ok (.if_icmp .eq 6, 3) := by decide +kernel
theorem dX4_taken_124 : decode cX4_taken 124 = .ok (.bipush (-2), 2) := by decide +kernel
theorem dX4_taken_126 : decode cX4_taken 126 = .ok (.ireturn, 1) := by decide +kernel
theorem dX4_taken_127 : decode cX4_taken 127 = .ok (.iload 12, 2) := by decide +kernel
theorem dX4_taken_129 : decode cX4_taken 129 = .ok (.istore 11, 2) := by decide +kernel
theorem dX4_taken_131 : decode cX4_taken 131 = .ok (.iinc 12 1, 3) := by decide +kernel
theorem dX4_taken_134 : decode cX4_taken 134 = .ok (.goto (-79), 3) := by decide +kernel
theorem dX4_taken_137 : decode cX4_taken 137 = .ok (.iload 11, 2) := by decide +kernel
theorem dX4_taken_139 : decode cX4_taken 139 = .ok (.ireturn, 1) := by decide +kernel
theorem dX4_requireWithin_0 : decode cX4_requireWithin 0 = .ok (.iload_n 0, 1) := by decide +kernel
theorem dX4_requireWithin_1 : decode cX4_requireWithin 1 = .ok (.iload_n 1, 1) := by decide +kernel
theorem dX4_requireWithin_2 : decode cX4_requireWithin 2 = .ok (.if_icmp .lt 8, 3) := by decide +kernel
theorem dX4_requireWithin_5 : decode cX4_requireWithin 5 = .ok (.iload_n 0, 1) := by decide +kernel
theorem dX4_requireWithin_6 : decode cX4_requireWithin 6 = .ok (.iload_n 2, 1) := by decide +kernel
theorem dX4_requireWithin_7 : decode cX4_requireWithin 7 = .ok (.if_icmp .le 13, 3) := by decide +kernel
theorem dX4_requireWithin_10 : decode cX4_requireWithin 10 = .ok (.new 183, 3) := by decide +kernel
theorem dX4_requireWithin_13 : decode cX4_requireWithin 13 = .ok (.dup, 1) := by decide +kernel
theorem dX4_requireWithin_14 : decode cX4_requireWithin 14 = .ok (.ldc 185, 2) := by decide +kernel
theorem dX4_requireWithin_16 : decode cX4_requireWithin 16 = .ok (.invokespecial 187, 3) := by decide +kernel
theorem dX4_requireWithin_19 : decode cX4_requireWithin 19 = .ok (.athrow, 1) := by decide +kernel
theorem dX4_requireWithin_20 : decode cX4_requireWithin 20 = .ok (.return_, 1) := by decide +kernel
theorem dX4_requirePlace_0 : decode cX4_requirePlace 0 = .ok (.iload_n 0, 1) := by decide +kernel
theorem dX4_requirePlace_1 : decode cX4_requirePlace 1 = .ok (.iconst 0, 1) := by decide +kernel
theorem dX4_requirePlace_2 : decode cX4_requirePlace 2 = .ok (.bipush 31, 2) := by decide +kernel
theorem dX4_requirePlace_4 : decode cX4_requirePlace 4 = .ok (.invokestatic 33, 3) := by decide +kernel
theorem dX4_requirePlace_7 : decode cX4_requirePlace 7 = .ok (.iload_n 1, 1) := by decide +kernel
theorem dX4_requirePlace_8 : decode cX4_requirePlace 8 = .ok (.iconst 0, 1) := by decide +kernel
theorem dX4_requirePlace_9 : decode cX4_requirePlace 9 = .ok (.bipush 31, 2) := by decide +kernel
theorem dX4_requirePlace_11 : decode cX4_requirePlace 11 = .ok (.invokestatic 33, 3) := by decide +kernel
theorem dX4_requirePlace_14 : decode cX4_requirePlace 14 = .ok (.return_, 1) := by decide +kernel
theorem dX4_requirePattern_0 : decode cX4_requirePattern 0 = .ok (.iload_n 1, 1) := by decide +kernel
theorem dX4_requirePattern_1 : decode cX4_requirePattern 1 = .ok (.ifCond .lt 14, 3) := by decide +kernel
theorem dX4_requirePattern_4 : decode cX4_requirePattern 4 = .ok (.iload_n 1, 1) := by decide +kernel
theorem dX4_requirePattern_5 : decode cX4_requirePattern 5 = .ok (.aload_n 0, 1) := by decide +kernel
theorem dX4_requirePattern_6 : decode cX4_requirePattern 6 = .ok (.getfield 20, 3) := by decide +kernel
theorem dX4_requirePattern_9 : decode cX4_requirePattern 9 = .ok (.invokevirtual 46, 3) := by decide +kernel
theorem dX4_requirePattern_12 : decode cX4_requirePattern 12 = .ok (.if_icmp .lt 13, 3) := by decide +kernel
theorem dX4_requirePattern_15 : decode cX4_requirePattern 15 = .ok (.new 188, 3) := by decide +kernel
theorem dX4_requirePattern_18 : decode cX4_requirePattern 18 = .ok (.dup, 1) := by decide +kernel
theorem dX4_requirePattern_19 : decode cX4_requirePattern 19 = .ok (.ldc 190, 2) := by decide +kernel
theorem dX4_requirePattern_21 : decode cX4_requirePattern 21 = .ok (.invokespecial 192, 3) := by decide +kernel
theorem dX4_requirePattern_24 : decode cX4_requirePattern 24 = .ok (.athrow, 1) := by decide +kernel
theorem dX4_requirePattern_25 : decode cX4_requirePattern 25 = .ok (.return_, 1) := by decide +kernel
theorem dX4_requireLamp_0 : decode cX4_requireLamp 0 = .ok (.iload_n 1, 1) := by decide +kernel
theorem dX4_requireLamp_1 : decode cX4_requireLamp 1 = .ok (.ifCond .lt 14, 3) := by decide +kernel
theorem dX4_requireLamp_4 : decode cX4_requireLamp 4 = .ok (.iload_n 1, 1) := by decide +kernel
theorem dX4_requireLamp_5 : decode cX4_requireLamp 5 = .ok (.aload_n 0, 1) := by decide +kernel
theorem dX4_requireLamp_6 : decode cX4_requireLamp 6 = .ok (.getfield 24, 3) := by decide +kernel
theorem dX4_requireLamp_9 : decode cX4_requireLamp 9 = .ok (.invokevirtual 46, 3) := by decide +kernel
theorem dX4_requireLamp_12 : decode cX4_requireLamp 12 = .ok (.if_icmp .lt 13, 3) := by decide +kernel
theorem dX4_requireLamp_15 : decode cX4_requireLamp 15 = .ok (.new 188, 3) := by decide +kernel
theorem dX4_requireLamp_18 : decode cX4_requireLamp 18 = .ok (.dup, 1) := by decide +kernel
theorem dX4_requireLamp_19 : decode cX4_requireLamp 19 = .ok (.ldc 193, 2) := by decide +kernel
theorem dX4_requireLamp_21 : decode cX4_requireLamp 21 = .ok (.invokespecial 192, 3) := by decide +kernel
theorem dX4_requireLamp_24 : decode cX4_requireLamp 24 = .ok (.athrow, 1) := by decide +kernel
theorem dX4_requireLamp_25 : decode cX4_requireLamp 25 = .ok (.return_, 1) := by decide +kernel
theorem dX4_patternAt_0 : decode cX4_patternAt 0 = .ok (.aload_n 0, 1) := by decide +kernel
theorem dX4_patternAt_1 : decode cX4_patternAt 1 = .ok (.iload_n 1, 1) := by decide +kernel
theorem dX4_patternAt_2 : decode cX4_patternAt 2 = .ok (.invokevirtual 81, 3) := by decide +kernel
theorem dX4_patternAt_5 : decode cX4_patternAt 5 = .ok (.aload_n 0, 1) := by decide +kernel
theorem dX4_patternAt_6 : decode cX4_patternAt 6 = .ok (.getfield 20, 3) := by decide +kernel
theorem dX4_patternAt_9 : decode cX4_patternAt 9 = .ok (.iload_n 1, 1) := by decide +kernel
theorem dX4_patternAt_10 : decode cX4_patternAt 10 = .ok (.invokevirtual 139, 3) := by decide +kernel
theorem dX4_patternAt_13 : decode cX4_patternAt 13 = .ok (.checkcast 52, 3) := by decide +kernel
theorem dX4_patternAt_16 : decode cX4_patternAt 16 = .ok (.areturn, 1) := by decide +kernel
theorem dX4_lampAt_0 : decode cX4_lampAt 0 = .ok (.aload_n 0, 1) := by decide +kernel
theorem dX4_lampAt_1 : decode cX4_lampAt 1 = .ok (.iload_n 1, 1) := by decide +kernel
theorem dX4_lampAt_2 : decode cX4_lampAt 2 = .ok (.invokevirtual 169, 3) := by decide +kernel
theorem dX4_lampAt_5 : decode cX4_lampAt 5 = .ok (.aload_n 0, 1) := by decide +kernel
theorem dX4_lampAt_6 : decode cX4_lampAt 6 = .ok (.getfield 24, 3) := by decide +kernel
theorem dX4_lampAt_9 : decode cX4_lampAt 9 = .ok (.iload_n 1, 1) := by decide +kernel
theorem dX4_lampAt_10 : decode cX4_lampAt 10 = .ok (.invokevirtual 139, 3) := by decide +kernel
theorem dX4_lampAt_13 : decode cX4_lampAt 13 = .ok (.checkcast 91, 3) := by decide +kernel
theorem dX4_lampAt_16 : decode cX4_lampAt 16 = .ok (.areturn, 1) := by decide +kernel
theorem dX4_chartAt_0 : decode cX4_chartAt 0 = .ok (.iload_n 1, 1) := by decide +kernel
theorem dX4_chartAt_1 : decode cX4_chartAt 1 = .ok (.ifCond .lt 14, 3) := by decide +kernel
theorem dX4_chartAt_4 : decode cX4_chartAt 4 = .ok (.iload_n 1, 1) := by decide +kernel
theorem dX4_chartAt_5 : decode cX4_chartAt 5 = .ok (.aload_n 0, 1) := by decide +kernel
theorem dX4_chartAt_6 : decode cX4_chartAt 6 = .ok (.getfield 30, 3) := by decide +kernel
theorem dX4_chartAt_9 : decode cX4_chartAt 9 = .ok (.invokevirtual 46, 3) := by decide +kernel
theorem dX4_chartAt_12 : decode cX4_chartAt 12 = .ok (.if_icmp .lt 13, 3) := by decide +kernel
theorem dX4_chartAt_15 : decode cX4_chartAt 15 = .ok (.new 188, 3) := by decide +kernel
theorem dX4_chartAt_18 : decode cX4_chartAt 18 = .ok (.dup, 1) := by decide +kernel
theorem dX4_chartAt_19 : decode cX4_chartAt 19 = .ok (.ldc 195, 2) := by decide +kernel
theorem dX4_chartAt_21 : decode cX4_chartAt 21 = .ok (.invokespecial 192, 3) := by decide +kernel
theorem dX4_chartAt_24 : decode cX4_chartAt 24 = .ok (.athrow, 1) := by decide +kernel
theorem dX4_chartAt_25 : decode cX4_chartAt 25 = .ok (.aload_n 0, 1) := by decide +kernel
theorem dX4_chartAt_26 : decode cX4_chartAt 26 = .ok (.getfield 30, 3) := by decide +kernel
theorem dX4_chartAt_29 : decode cX4_chartAt 29 = .ok (.iload_n 1, 1) := by decide +kernel
theorem dX4_chartAt_30 : decode cX4_chartAt 30 = .ok (.invokevirtual 139, 3) := by decide +kernel
theorem dX4_chartAt_33 : decode cX4_chartAt 33 = .ok (.checkcast 149, 3) := by decide +kernel
theorem dX4_chartAt_36 : decode cX4_chartAt 36 = .ok (.areturn, 1) := by decide +kernel
theorem dX4_isLit_0 : decode cX4_isLit 0 = .ok (.aload_n 1, 1) := by decide +kernel
theorem dX4_isLit_1 : decode cX4_isLit 1 = .ok (.getfield 110, 3) := by decide +kernel
theorem dX4_isLit_4 : decode cX4_isLit 4 = .ok (.ifCond .ne 27, 3) := by decide +kernel
theorem dX4_isLit_7 : decode cX4_isLit 7 = .ok (.aload_n 0, 1) := by decide +kernel
theorem dX4_isLit_8 : decode cX4_isLit 8 = .ok (.aload_n 1, 1) := by decide +kernel
theorem dX4_isLit_9 : decode cX4_isLit 9 = .ok (.getfield 104, 3) := by decide +kernel
theorem dX4_isLit_12 : decode cX4_isLit 12 = .ok (.invokevirtual 67, 3) := by decide +kernel
theorem dX4_isLit_15 : decode cX4_isLit 15 = .ok (.iload_n 2, 1) := by decide +kernel
theorem dX4_isLit_16 : decode cX4_isLit 16 = .ok (.aload_n 1, 1) := by decide +kernel
theorem dX4_isLit_17 : decode cX4_isLit 17 = .ok (.getfield 107, 3) := by decide +kernel
theorem dX4_isLit_20 : decode cX4_isLit 20 = .ok (.iadd, 1) := by decide +kernel
theorem dX4_isLit_21 : decode cX4_isLit 21 = .ok (.invokevirtual 197, 3) := by decide +kernel
theorem dX4_isLit_24 : decode cX4_isLit 24 = .ok (.ifCond .eq 7, 3) := by decide +kernel
theorem dX4_isLit_27 : decode cX4_isLit 27 = .ok (.iconst 1, 1) := by decide +kernel
theorem dX4_isLit_28 : decode cX4_isLit 28 = .ok (.goto 4, 3) := by decide +kernel
theorem dX4_isLit_31 : decode cX4_isLit 31 = .ok (.iconst 0, 1) := by decide +kernel
theorem dX4_isLit_32 : decode cX4_isLit 32 = .ok (.ireturn, 1) := by decide +kernel
theorem dX4_clash_0 : decode cX4_clash 0 = .ok (.aload_n 0, 1) := by decide +kernel
theorem dX4_clash_1 : decode cX4_clash 1 = .ok (.aload_n 1, 1) := by decide +kernel
theorem dX4_clash_2 : decode cX4_clash 2 = .ok (.getfield 104, 3) := by decide +kernel
theorem dX4_clash_5 : decode cX4_clash 5 = .ok (.invokevirtual 67, 3) := by decide +kernel
theorem dX4_clash_8 : decode cX4_clash 8 = .ok (.aload_n 0, 1) := by decide +kernel
theorem dX4_clash_9 : decode cX4_clash 9 = .ok (.aload_n 2, 1) := by decide +kernel
theorem dX4_clash_10 : decode cX4_clash 10 = .ok (.getfield 104, 3) := by decide +kernel
theorem dX4_clash_13 : decode cX4_clash 13 = .ok (.invokevirtual 67, 3) := by decide +kernel
theorem dX4_clash_16 : decode cX4_clash 16 = .ok (.invokevirtual 74, 3) := by decide +kernel
theorem dX4_clash_19 : decode cX4_clash 19 = .ok (.ifCond .eq 15, 3) := by decide +kernel
theorem dX4_clash_22 : decode cX4_clash 22 = .ok (.aload_n 1, 1) := by decide +kernel
theorem dX4_clash_23 : decode cX4_clash 23 = .ok (.aload_n 2, 1) := by decide +kernel
theorem dX4_clash_24 : decode cX4_clash 24 = .ok (.invokevirtual 135, 3) := by decide +kernel
theorem dX4_clash_27 : decode cX4_clash 27 = .ok (.ifCond .le 7, 3) := by decide +kernel
theorem dX4_clash_30 : decode cX4_clash 30 = .ok (.iconst 1, 1) := by decide +kernel
theorem dX4_clash_31 : decode cX4_clash 31 = .ok (.goto 4, 3) := by decide +kernel
theorem dX4_clash_34 : decode cX4_clash 34 = .ok (.iconst 0, 1) := by decide +kernel
theorem dX4_clash_35 : decode cX4_clash 35 = .ok (.ireturn, 1) := by decide +kernel
theorem dX4_tell_0 : decode cX4_tell 0 = .ok (.aload_n 0, 1) := by decide +kernel
theorem dX4_tell_1 : decode cX4_tell 1 = .ok (.getfield 27, 3) := by decide +kernel
theorem dX4_tell_4 : decode cX4_tell 4 = .ok (.invokevirtual 46, 3) := by decide +kernel
theorem dX4_tell_7 : decode cX4_tell 7 = .ok (.sipush 512, 3) := by decide +kernel
theorem dX4_tell_10 : decode cX4_tell 10 = .ok (.if_icmp .lt 5, 3) := by decide +kernel
theorem dX4_tell_13 : decode cX4_tell 13 = .ok (.iconst (-1), 1) := by decide +kernel
theorem dX4_tell_14 : decode cX4_tell 14 = .ok (.ireturn, 1) := by decide +kernel
theorem dX4_tell_15 : decode cX4_tell 15 = .ok (.aload_n 0, 1) := by decide +kernel
theorem dX4_tell_16 : decode cX4_tell 16 = .ok (.iload_n 1, 1) := by decide +kernel
theorem dX4_tell_17 : decode cX4_tell 17 = .ok (.invokevirtual 100, 3) := by decide +kernel
theorem dX4_tell_20 : decode cX4_tell 20 = .ok (.astore_n 2, 1) := by decide +kernel
theorem dX4_tell_21 : decode cX4_tell 21 = .ok (.aload_n 0, 1) := by decide +kernel
theorem dX4_tell_22 : decode cX4_tell 22 = .ok (.getfield 27, 3) := by decide +kernel
theorem dX4_tell_25 : decode cX4_tell 25 = .ok (.new 201, 3) := by decide +kernel
theorem dX4_tell_28 : decode cX4_tell 28 = .ok (.dup, 1) := by decide +kernel
theorem dX4_tell_29 : decode cX4_tell 29 = .ok (.iload_n 1, 1) := by decide +kernel
theorem dX4_tell_30 : decode cX4_tell 30 = .ok (.aload_n 2, 1) := by decide +kernel
theorem dX4_tell_31 : decode cX4_tell 31 = .ok (.getfield 110, 3) := by decide +kernel
theorem dX4_tell_34 : decode cX4_tell 34 = .ok (.ifCond .eq 7, 3) := by decide +kernel
theorem dX4_tell_37 : decode cX4_tell 37 = .ok (.iconst (-1), 1) := by decide +kernel
theorem dX4_tell_38 : decode cX4_tell 38 = .ok (.goto 7, 3) := by decide +kernel
theorem dX4_tell_41 : decode cX4_tell 41 = .ok (.aload_n 2, 1) := by decide +kernel
theorem dX4_tell_42 : decode cX4_tell 42 = .ok (.getfield 104, 3) := by decide +kernel
theorem dX4_tell_45 : decode cX4_tell 45 = .ok (.invokespecial 203, 3) := by decide +kernel
theorem dX4_tell_48 : decode cX4_tell 48 = .ok (.invokevirtual 63, 3) := by decide +kernel
theorem dX4_tell_51 : decode cX4_tell 51 = .ok (.pop, 1) := by decide +kernel
theorem dX4_tell_52 : decode cX4_tell 52 = .ok (.aload_n 0, 1) := by decide +kernel
theorem dX4_tell_53 : decode cX4_tell 53 = .ok (.getfield 27, 3) := by decide +kernel
theorem dX4_tell_56 : decode cX4_tell 56 = .ok (.invokevirtual 46, 3) := by decide +kernel
theorem dX4_tell_59 : decode cX4_tell 59 = .ok (.iconst 1, 1) := by decide +kernel
theorem dX4_tell_60 : decode cX4_tell 60 = .ok (.isub, 1) := by decide +kernel
theorem dX4_tell_61 : decode cX4_tell 61 = .ok (.ireturn, 1) := by decide +kernel
theorem dX4_lackOf_0 : decode cX4_lackOf 0 = .ok (.aload_n 0, 1) := by decide +kernel
theorem dX4_lackOf_1 : decode cX4_lackOf 1 = .ok (.getfield 27, 3) := by decide +kernel
theorem dX4_lackOf_4 : decode cX4_lackOf 4 = .ok (.invokevirtual 46, 3) := by decide +kernel
theorem dX4_lackOf_7 : decode cX4_lackOf 7 = .ok (.aload_n 1, 1) := by decide +kernel
theorem dX4_lackOf_8 : decode cX4_lackOf 8 = .ok (.getfield 205, 3) := by decide +kernel
theorem dX4_lackOf_11 : decode cX4_lackOf 11 = .ok (.isub, 1) := by decide +kernel
theorem dX4_lackOf_12 : decode cX4_lackOf 12 = .ok (.ireturn, 1) := by decide +kernel
theorem dX4_putIn_0 : decode cX4_putIn 0 = .ok (.aload_n 1, 1) := by decide +kernel
theorem dX4_putIn_1 : decode cX4_putIn 1 = .ok (.getfield 205, 3) := by decide +kernel
theorem dX4_putIn_4 : decode cX4_putIn 4 = .ok (.iload_n 2, 1) := by decide +kernel
theorem dX4_putIn_5 : decode cX4_putIn 5 = .ok (.iadd, 1) := by decide +kernel
theorem dX4_putIn_6 : decode cX4_putIn 6 = .ok (.aload_n 0, 1) := by decide +kernel
theorem dX4_putIn_7 : decode cX4_putIn 7 = .ok (.getfield 27, 3) := by decide +kernel
theorem dX4_putIn_10 : decode cX4_putIn 10 = .ok (.invokevirtual 46, 3) := by decide +kernel
theorem dX4_putIn_13 : decode cX4_putIn 13 = .ok (.invokestatic 164, 3) := by decide +kernel
theorem dX4_putIn_16 : decode cX4_putIn 16 = .ok (.istore_n 3, 1) := by decide +kernel
theorem dX4_putIn_17 : decode cX4_putIn 17 = .ok (.aload_n 1, 1) := by decide +kernel
theorem dX4_putIn_18 : decode cX4_putIn 18 = .ok (.getfield 205, 3) := by decide +kernel
theorem dX4_putIn_21 : decode cX4_putIn 21 = .ok (.istore 4, 2) := by decide +kernel
theorem dX4_putIn_23 : decode cX4_putIn 23 = .ok (.iload 4, 2) := by decide +kernel
theorem dX4_putIn_25 : decode cX4_putIn 25 = .ok (.iload_n 3, 1) := by decide +kernel
theorem dX4_putIn_26 : decode cX4_putIn 26 = .ok (.if_icmp .ge 25, 3) := by decide +kernel
theorem dX4_putIn_29 : decode cX4_putIn 29 = .ok (.aload_n 1, 1) := by decide +kernel
theorem dX4_putIn_30 : decode cX4_putIn 30 = .ok (.aload_n 0, 1) := by decide +kernel
theorem dX4_putIn_31 : decode cX4_putIn 31 = .ok (.getfield 27, 3) := by decide +kernel
theorem dX4_putIn_34 : decode cX4_putIn 34 = .ok (.iload 4, 2) := by decide +kernel
theorem dX4_putIn_36 : decode cX4_putIn 36 = .ok (.invokevirtual 139, 3) := by decide +kernel
theorem dX4_putIn_39 : decode cX4_putIn 39 = .ok (.checkcast 201, 3) := by decide +kernel
theorem dX4_putIn_42 : decode cX4_putIn 42 = .ok (.invokevirtual 208, 3) := by decide +kernel
theorem dX4_putIn_45 : decode cX4_putIn 45 = .ok (.iinc 4 1, 3) := by decide +kernel
theorem dX4_putIn_48 : decode cX4_putIn 48 = .ok (.goto (-25), 3) := by decide +kernel
theorem dX4_putIn_51 : decode cX4_putIn 51 = .ok (.return_, 1) := by decide +kernel
theorem dX4_lookAt_0 : decode cX4_lookAt 0 = .ok (.lconst 0, 1) := by decide +kernel
theorem dX4_lookAt_1 : decode cX4_lookAt 1 = .ok (.lstore 4, 2) := by decide +kernel
theorem dX4_lookAt_3 : decode cX4_lookAt 3 = .ok (.iconst 0, 1) := by decide +kernel
theorem dX4_lookAt_4 : decode cX4_lookAt 4 = .ok (.istore 6, 2) := by decide +kernel
theorem dX4_lookAt_6 : decode cX4_lookAt 6 = .ok (.iload 6, 2) := by decide +kernel
theorem dX4_lookAt_8 : decode cX4_lookAt 8 = .ok (.iload_n 3, 1) := by decide +kernel
theorem dX4_lookAt_9 : decode cX4_lookAt 9 = .ok (.if_icmp .ge 30, 3) := by decide +kernel
theorem dX4_lookAt_12 : decode cX4_lookAt 12 = .ok (.aload_n 0, 1) := by decide +kernel
theorem dX4_lookAt_13 : decode cX4_lookAt 13 = .ok (.aload_n 1, 1) := by decide +kernel
theorem dX4_lookAt_14 : decode cX4_lookAt 14 = .ok (.iload_n 2, 1) := by decide +kernel
theorem dX4_lookAt_15 : decode cX4_lookAt 15 = .ok (.iload 6, 2) := by decide +kernel
theorem dX4_lookAt_17 : decode cX4_lookAt 17 = .ok (.iadd, 1) := by decide +kernel
theorem dX4_lookAt_18 : decode cX4_lookAt 18 = .ok (.invokevirtual 117, 3) := by decide +kernel
theorem dX4_lookAt_21 : decode cX4_lookAt 21 = .ok (.ifCond .eq 12, 3) := by decide +kernel
theorem dX4_lookAt_24 : decode cX4_lookAt 24 = .ok (.lload 4, 2) := by decide +kernel
theorem dX4_lookAt_26 : decode cX4_lookAt 26 = .ok (.lconst 1, 1) := by decide +kernel
theorem dX4_lookAt_27 : decode cX4_lookAt 27 = .ok (.iload 6, 2) := by decide +kernel
theorem dX4_lookAt_29 : decode cX4_lookAt 29 = .ok (.lshl, 1) := by decide +kernel
theorem dX4_lookAt_30 : decode cX4_lookAt 30 = .ok (.lor, 1) := by decide +kernel
theorem dX4_lookAt_31 : decode cX4_lookAt 31 = .ok (.lstore 4, 2) := by decide +kernel
theorem dX4_lookAt_33 : decode cX4_lookAt 33 = .ok (.iinc 6 1, 3) := by decide +kernel
theorem dX4_lookAt_36 : decode cX4_lookAt 36 = .ok (.goto (-30), 3) := by decide +kernel
theorem dX4_lookAt_39 : decode cX4_lookAt 39 = .ok (.lload 4, 2) := by decide +kernel
theorem dX4_lookAt_41 : decode cX4_lookAt 41 = .ok (.lreturn, 1) := by decide +kernel
theorem dX5_init_0 : decode cX5_init 0 = .ok (.aload_n 0, 1) := by decide +kernel
theorem dX5_init_1 : decode cX5_init 1 = .ok (.invokespecial 1, 3) := by decide +kernel
theorem dX5_init_4 : decode cX5_init 4 = .ok (.aload_n 0, 1) := by decide +kernel
theorem dX5_init_5 : decode cX5_init 5 = .ok (.bipush 6, 2) := by decide +kernel
theorem dX5_init_7 : decode cX5_init 7 = .ok (.newarray .int, 2) := by decide +kernel
theorem dX5_init_9 : decode cX5_init 9 = .ok (.putfield 7, 3) := by decide +kernel
theorem dX5_init_12 : decode cX5_init 12 = .ok (.aload_n 0, 1) := by decide +kernel
theorem dX5_init_13 : decode cX5_init 13 = .ok (.bipush 120, 2) := by decide +kernel
theorem dX5_init_15 : decode cX5_init 15 = .ok (.newarray .int, 2) := by decide +kernel
theorem dX5_init_17 : decode cX5_init 17 = .ok (.putfield 13, 3) := by decide +kernel
theorem dX5_init_20 : decode cX5_init 20 = .ok (.aload_n 0, 1) := by decide +kernel
theorem dX5_init_21 : decode cX5_init 21 = .ok (.bipush 20, 2) := by decide +kernel
theorem dX5_init_23 : decode cX5_init 23 = .ok (.newarray .int, 2) := by decide +kernel
theorem dX5_init_25 : decode cX5_init 25 = .ok (.putfield 16, 3) := by decide +kernel
theorem dX5_init_28 : decode cX5_init 28 = .ok (.aload_n 0, 1) := by decide +kernel
theorem dX5_init_29 : decode cX5_init 29 = .ok (.bipush 20, 2) := by decide +kernel
theorem dX5_init_31 : decode cX5_init 31 = .ok (.newarray .int, 2) := by decide +kernel
theorem dX5_init_33 : decode cX5_init 33 = .ok (.putfield 19, 3) := by decide +kernel
theorem dX5_init_36 : decode cX5_init 36 = .ok (.aload_n 0, 1) := by decide +kernel
theorem dX5_init_37 : decode cX5_init 37 = .ok (.bipush 12, 2) := by decide +kernel
theorem dX5_init_39 : decode cX5_init 39 = .ok (.newarray .int, 2) := by decide +kernel
theorem dX5_init_41 : decode cX5_init 41 = .ok (.putfield 22, 3) := by decide +kernel
theorem dX5_init_44 : decode cX5_init 44 = .ok (.aload_n 0, 1) := by decide +kernel
theorem dX5_init_45 : decode cX5_init 45 = .ok (.bipush 12, 2) := by decide +kernel
theorem dX5_init_47 : decode cX5_init 47 = .ok (.newarray .int, 2) := by decide +kernel
theorem dX5_init_49 : decode cX5_init 49 = .ok (.putfield 25, 3) := by decide +kernel
theorem dX5_init_52 : decode cX5_init 52 = .ok (.aload_n 0, 1) := by decide +kernel
theorem dX5_init_53 : decode cX5_init 53 = .ok (.bipush 12, 2) := by decide +kernel
theorem dX5_init_55 : decode cX5_init 55 = .ok (.newarray .int, 2) := by decide +kernel
theorem dX5_init_57 : decode cX5_init 57 = .ok (.putfield 28, 3) := by decide +kernel
theorem dX5_init_60 : decode cX5_init 60 = .ok (.aload_n 0, 1) := by decide +kernel
theorem dX5_init_61 : decode cX5_init 61 = .ok (.bipush 12, 2) := by decide +kernel
theorem dX5_init_63 : decode cX5_init 63 = .ok (.newarray .int, 2) := by decide +kernel
theorem dX5_init_65 : decode cX5_init 65 = .ok (.putfield 31, 3) := by decide +kernel
theorem dX5_init_68 : decode cX5_init 68 = .ok (.aload_n 0, 1) := by decide +kernel
theorem dX5_init_69 : decode cX5_init 69 = .ok (.bipush 12, 2) := by decide +kernel
theorem dX5_init_71 : decode cX5_init 71 = .ok (.newarray .int, 2) := by decide +kernel
theorem dX5_init_73 : decode cX5_init 73 = .ok (.putfield 34, 3) := by decide +kernel
theorem dX5_init_76 : decode cX5_init 76 = .ok (.aload_n 0, 1) := by decide +kernel
theorem dX5_init_77 : decode cX5_init 77 = .ok (.bipush 12, 2) := by decide +kernel
theorem dX5_init_79 : decode cX5_init 79 = .ok (.newarray .int, 2) := by decide +kernel
theorem dX5_init_81 : decode cX5_init 81 = .ok (.putfield 37, 3) := by decide +kernel
theorem dX5_init_84 : decode cX5_init 84 = .ok (.aload_n 0, 1) := by decide +kernel
theorem dX5_init_85 : decode cX5_init 85 = .ok (.bipush 12, 2) := by decide +kernel
theorem dX5_init_87 : decode cX5_init 87 = .ok (.newarray .boolean, 2) := by decide +kernel
theorem dX5_init_89 : decode cX5_init 89 = .ok (.putfield 40, 3) := by decide +kernel
theorem dX5_init_92 : decode cX5_init 92 = .ok (.aload_n 0, 1) := by decide +kernel
theorem dX5_init_93 : decode cX5_init 93 = .ok (.sipush 4200, 3) := by decide +kernel
theorem dX5_init_96 : decode cX5_init 96 = .ok (.newarray .int, 2) := by decide +kernel
theorem dX5_init_98 : decode cX5_init 98 = .ok (.putfield 44, 3) := by decide +kernel
theorem dX5_init_101 : decode cX5_init 101 = .ok (.aload_n 0, 1) := by decide +kernel
theorem dX5_init_102 : decode cX5_init 102 = .ok (.bipush 10, 2) := by decide +kernel
theorem dX5_init_104 : decode cX5_init 104 = .ok (.newarray .int, 2) := by decide +kernel
theorem dX5_init_106 : decode cX5_init 106 = .ok (.putfield 47, 3) := by decide +kernel
theorem dX5_init_109 : decode cX5_init 109 = .ok (.aload_n 0, 1) := by decide +kernel
theorem dX5_init_110 : decode cX5_init 110 = .ok (.bipush 120, 2) := by decide +kernel
theorem dX5_init_112 : decode cX5_init 112 = .ok (.newarray .int, 2) := by decide +kernel
theorem dX5_init_114 : decode cX5_init 114 = .ok (.putfield 50, 3) := by decide +kernel
theorem dX5_init_117 : decode cX5_init 117 = .ok (.return_, 1) := by decide +kernel
theorem dX5_thrown_0 : decode cX5_thrown 0 = .ok (.aload_n 0, 1) := by decide +kernel
theorem dX5_thrown_1 : decode cX5_thrown 1 = .ok (.getfield 53, 3) := by decide +kernel
theorem dX5_thrown_4 : decode cX5_thrown 4 = .ok (.ireturn, 1) := by decide +kernel
theorem dX5_isIn_0 : decode cX5_isIn 0 = .ok (.iload_n 0, 1) := by decide +kernel
theorem dX5_isIn_1 : decode cX5_isIn 1 = .ok (.iload_n 1, 1) := by decide +kernel
theorem dX5_isIn_2 : decode cX5_isIn 2 = .ok (.if_icmp .lt 12, 3) := by decide +kernel
theorem dX5_isIn_5 : decode cX5_isIn 5 = .ok (.iload_n 0, 1) := by decide +kernel
theorem dX5_isIn_6 : decode cX5_isIn 6 = .ok (.iload_n 2, 1) := by decide +kernel
theorem dX5_isIn_7 : decode cX5_isIn 7 = .ok (.if_icmp .gt 7, 3) := by decide +kernel
theorem dX5_isIn_10 : decode cX5_isIn 10 = .ok (.iconst 1, 1) := by decide +kernel
theorem dX5_isIn_11 : decode cX5_isIn 11 = .ok (.goto 4, 3) := by decide +kernel
theorem dX5_isIn_14 : decode cX5_isIn 14 = .ok (.iconst 0, 1) := by decide +kernel
theorem dX5_isIn_15 : decode cX5_isIn 15 = .ok (.ireturn, 1) := by decide +kernel
theorem dX5_isPattern_0 : decode cX5_isPattern 0 = .ok (.iload_n 1, 1) := by decide +kernel
theorem dX5_isPattern_1 : decode cX5_isPattern 1 = .ok (.iconst 0, 1) := by decide +kernel
theorem dX5_isPattern_2 : decode cX5_isPattern 2 = .ok (.aload_n 0, 1) := by decide +kernel
theorem dX5_isPattern_3 : decode cX5_isPattern 3 = .ok (.getfield 57, 3) := by decide +kernel
theorem dX5_isPattern_6 : decode cX5_isPattern 6 = .ok (.iconst 1, 1) := by decide +kernel
theorem dX5_isPattern_7 : decode cX5_isPattern 7 = .ok (.isub, 1) := by decide +kernel
theorem dX5_isPattern_8 : decode cX5_isPattern 8 = .ok (.invokestatic 60, 3) := by decide +kernel
theorem dX5_isPattern_11 : decode cX5_isPattern 11 = .ok (.ireturn, 1) := by decide +kernel
theorem dX5_isLamp_0 : decode cX5_isLamp 0 = .ok (.iload_n 1, 1) := by decide +kernel
theorem dX5_isLamp_1 : decode cX5_isLamp 1 = .ok (.iconst 0, 1) := by decide +kernel
theorem dX5_isLamp_2 : decode cX5_isLamp 2 = .ok (.aload_n 0, 1) := by decide +kernel
theorem dX5_isLamp_3 : decode cX5_isLamp 3 = .ok (.getfield 64, 3) := by decide +kernel
theorem dX5_isLamp_6 : decode cX5_isLamp 6 = .ok (.iconst 1, 1) := by decide +kernel
theorem dX5_isLamp_7 : decode cX5_isLamp 7 = .ok (.isub, 1) := by decide +kernel
theorem dX5_isLamp_8 : decode cX5_isLamp 8 = .ok (.invokestatic 60, 3) := by decide +kernel
theorem dX5_isLamp_11 : decode cX5_isLamp 11 = .ok (.ireturn, 1) := by decide +kernel
theorem dX5_isChart_0 : decode cX5_isChart 0 = .ok (.iload_n 1, 1) := by decide +kernel
theorem dX5_isChart_1 : decode cX5_isChart 1 = .ok (.iconst 0, 1) := by decide +kernel
theorem dX5_isChart_2 : decode cX5_isChart 2 = .ok (.aload_n 0, 1) := by decide +kernel
theorem dX5_isChart_3 : decode cX5_isChart 3 = .ok (.getfield 67, 3) := by decide +kernel
theorem dX5_isChart_6 : decode cX5_isChart 6 = .ok (.iconst 1, 1) := by decide +kernel
theorem dX5_isChart_7 : decode cX5_isChart 7 = .ok (.isub, 1) := by decide +kernel
theorem dX5_isChart_8 : decode cX5_isChart 8 = .ok (.invokestatic 60, 3) := by decide +kernel
theorem dX5_isChart_11 : decode cX5_isChart 11 = .ok (.ireturn, 1) := by decide +kernel
theorem dX5_isPlace_0 : decode cX5_isPlace 0 = .ok (.iload_n 0, 1) := by decide +kernel
theorem dX5_isPlace_1 : decode cX5_isPlace 1 = .ok (.iconst 0, 1) := by decide +kernel
theorem dX5_isPlace_2 : decode cX5_isPlace 2 = .ok (.bipush 31, 2) := by decide +kernel
theorem dX5_isPlace_4 : decode cX5_isPlace 4 = .ok (.invokestatic 60, 3) := by decide +kernel
theorem dX5_isPlace_7 : decode cX5_isPlace 7 = .ok (.ifCond .eq 17, 3) := by decide +kernel
theorem dX5_isPlace_10 : decode cX5_isPlace 10 = .ok (.iload_n 1, 1) := by decide +kernel
theorem dX5_isPlace_11 : decode cX5_isPlace 11 = .ok (.iconst 0, 1) := by decide +kernel
theorem dX5_isPlace_12 : decode cX5_isPlace 12 = .ok (.bipush 31, 2) := by decide +kernel
theorem dX5_isPlace_14 : decode cX5_isPlace 14 = .ok (.invokestatic 60, 3) := by decide +kernel
theorem dX5_isPlace_17 : decode cX5_isPlace 17 = .ok (.ifCond .eq 7, 3) := by decide +kernel
theorem dX5_isPlace_20 : decode cX5_isPlace 20 = .ok (.iconst 1, 1) := by decide +kernel
theorem dX5_isPlace_21 : decode cX5_isPlace 21 = .ok (.goto 4, 3) := by decide +kernel
theorem dX5_isPlace_24 : decode cX5_isPlace 24 = .ok (.iconst 0, 1) := by decide +kernel
theorem dX5_isPlace_25 : decode cX5_isPlace 25 = .ok (.ireturn, 1) := by decide +kernel
theorem dX5_phase_0 : decode cX5_phase 0 = .ok (.aload_n 0, 1) := by decide +kernel
theorem dX5_phase_1 : decode cX5_phase 1 = .ok (.iload_n 1, 1) := by decide +kernel
theorem dX5_phase_2 : decode cX5_phase 2 = .ok (.iconst 1, 1) := by decide +kernel
theorem dX5_phase_3 : decode cX5_phase 3 = .ok (.bipush 9, 2) := by decide +kernel
theorem dX5_phase_5 : decode cX5_phase 5 = .ok (.invokestatic 60, 3) := by decide +kernel
theorem dX5_phase_8 : decode cX5_phase 8 = .ok (.ifCond .ne 7, 3) := by decide +kernel
theorem dX5_phase_11 : decode cX5_phase 11 = .ok (.iconst 1, 1) := by decide +kernel
theorem dX5_phase_12 : decode cX5_phase 12 = .ok (.goto 17, 3) := by decide +kernel
theorem dX5_phase_15 : decode cX5_phase 15 = .ok (.aload_n 0, 1) := by decide +kernel
theorem dX5_phase_16 : decode cX5_phase 16 = .ok (.getfield 70, 3) := by decide +kernel
theorem dX5_phase_19 : decode cX5_phase 19 = .ok (.bipush 6, 2) := by decide +kernel
theorem dX5_phase_21 : decode cX5_phase 21 = .ok (.if_icmp .ne 7, 3) := by decide +kernel
theorem dX5_phase_24 : decode cX5_phase 24 = .ok (.iconst 2, 1) := by decide +kernel
theorem dX5_phase_25 : decode cX5_phase 25 = .ok (.goto 4, 3) := by decide +kernel
theorem dX5_phase_28 : decode cX5_phase 28 = .ok (.iconst 0, 1) := by decide +kernel
theorem dX5_phase_29 : decode cX5_phase 29 = .ok (.putfield 53, 3) := by decide +kernel
theorem dX5_phase_32 : decode cX5_phase 32 = .ok (.aload_n 0, 1) := by decide +kernel
theorem dX5_phase_33 : decode cX5_phase 33 = .ok (.getfield 53, 3) := by decide +kernel
theorem dX5_phase_36 : decode cX5_phase 36 = .ok (.ifCond .le 5, 3) := by decide +kernel
theorem dX5_phase_39 : decode cX5_phase 39 = .ok (.iconst 0, 1) := by decide +kernel
theorem dX5_phase_40 : decode cX5_phase 40 = .ok (.ireturn, 1) := by decide +kernel
theorem dX5_phase_41 : decode cX5_phase 41 = .ok (.aload_n 0, 1) := by decide +kernel
theorem dX5_phase_42 : decode cX5_phase 42 = .ok (.getfield 7, 3) := by decide +kernel
theorem dX5_phase_45 : decode cX5_phase 45 = .ok (.aload_n 0, 1) := by decide +kernel
theorem dX5_phase_46 : decode cX5_phase 46 = .ok (.getfield 70, 3) := by decide +kernel
theorem dX5_phase_49 : decode cX5_phase 49 = .ok (.iload_n 1, 1) := by decide +kernel
theorem dX5_phase_50 : decode cX5_phase 50 = .ok (.iastore, 1) := by decide +kernel
theorem dX5_phase_51 : decode cX5_phase 51 = .ok (.aload_n 0, 1) := by decide +kernel
theorem dX5_phase_52 : decode cX5_phase 52 = .ok (.dup, 1) := by decide +kernel
theorem dX5_phase_53 : decode cX5_phase 53 = .ok (.getfield 70, 3) := by decide +kernel
theorem dX5_phase_56 : decode cX5_phase 56 = .ok (.iconst 1, 1) := by decide +kernel
theorem dX5_phase_57 : decode cX5_phase 57 = .ok (.iadd, 1) := by decide +kernel
theorem dX5_phase_58 : decode cX5_phase 58 = .ok (.putfield 70, 3) := by decide +kernel
theorem dX5_phase_61 : decode cX5_phase 61 = .ok (.aload_n 0, 1) := by decide +kernel
theorem dX5_phase_62 : decode cX5_phase 62 = .ok (.getfield 70, 3) := by decide +kernel
theorem dX5_phase_65 : decode cX5_phase 65 = .ok (.ireturn, 1) := by decide +kernel
theorem dX5_pattern_0 : decode cX5_pattern 0 = .ok (.aload_n 0, 1) := by decide +kernel
theorem dX5_pattern_1 : decode cX5_pattern 1 = .ok (.getfield 70, 3) := by decide +kernel
theorem dX5_pattern_4 : decode cX5_pattern 4 = .ok (.iconst 2, 1) := by decide +kernel
theorem dX5_pattern_5 : decode cX5_pattern 5 = .ok (.if_icmp .eq 20, 3) := by decide +kernel
theorem dX5_pattern_8 : decode cX5_pattern 8 = .ok (.aload_n 0, 1) := by decide +kernel
theorem dX5_pattern_9 : decode cX5_pattern 9 = .ok (.getfield 70, 3) := by decide +kernel
theorem dX5_pattern_12 : decode cX5_pattern 12 = .ok (.iconst 4, 1) := by decide +kernel
theorem dX5_pattern_13 : decode cX5_pattern 13 = .ok (.if_icmp .eq 12, 3) := by decide +kernel
theorem dX5_pattern_16 : decode cX5_pattern 16 = .ok (.aload_n 0, 1) := by decide +kernel
theorem dX5_pattern_17 : decode cX5_pattern 17 = .ok (.getfield 70, 3) := by decide +kernel
theorem dX5_pattern_20 : decode cX5_pattern 20 = .ok (.bipush 6, 2) := by decide +kernel
theorem dX5_pattern_22 : decode cX5_pattern 22 = .ok (.if_icmp .ne 7, 3) := by decide +kernel
theorem dX5_pattern_25 : decode cX5_pattern 25 = .ok (.iconst 1, 1) := by decide +kernel
theorem dX5_pattern_26 : decode cX5_pattern 26 = .ok (.goto 4, 3) := by decide +kernel
theorem dX5_pattern_29 : decode cX5_pattern 29 = .ok (.iconst 0, 1) := by decide +kernel
theorem dX5_pattern_30 : decode cX5_pattern 30 = .ok (.istore_n 1, 1) := by decide +kernel
theorem dX5_pattern_31 : decode cX5_pattern 31 = .ok (.aload_n 0, 1) := by decide +kernel
theorem dX5_pattern_32 : decode cX5_pattern 32 = .ok (.iload_n 1, 1) := by decide +kernel
theorem dX5_pattern_33 : decode cX5_pattern 33 = .ok (.ifCond .eq 16, 3) := by decide +kernel
theorem dX5_pattern_36 : decode cX5_pattern 36 = .ok (.aload_n 0, 1) := by decide +kernel
theorem dX5_pattern_37 : decode cX5_pattern 37 = .ok (.getfield 57, 3) := by decide +kernel
theorem dX5_pattern_40 : decode cX5_pattern 40 = .ok (.bipush 20, 2) := by decide +kernel
theorem dX5_pattern_42 : decode cX5_pattern 42 = .ok (.if_icmp .ge 7, 3) := by decide +kernel
theorem dX5_pattern_45 : decode cX5_pattern 45 = .ok (.iconst 0, 1) := by decide +kernel
theorem dX5_pattern_46 : decode cX5_pattern 46 = .ok (.goto 4, 3) := by decide +kernel
theorem dX5_pattern_49 : decode cX5_pattern 49 = .ok (.iconst 1, 1) := by decide +kernel
theorem dX5_pattern_50 : decode cX5_pattern 50 = .ok (.putfield 53, 3) := by decide +kernel
theorem dX5_pattern_53 : decode cX5_pattern 53 = .ok (.aload_n 0, 1) := by decide +kernel
theorem dX5_pattern_54 : decode cX5_pattern 54 = .ok (.getfield 53, 3) := by decide +kernel
theorem dX5_pattern_57 : decode cX5_pattern 57 = .ok (.ifCond .le 5, 3) := by decide +kernel
theorem dX5_pattern_60 : decode cX5_pattern 60 = .ok (.iconst 0, 1) := by decide +kernel
theorem dX5_pattern_61 : decode cX5_pattern 61 = .ok (.ireturn, 1) := by decide +kernel
theorem dX5_pattern_62 : decode cX5_pattern 62 = .ok (.iconst 0, 1) := by decide +kernel
theorem dX5_pattern_63 : decode cX5_pattern 63 = .ok (.istore_n 2, 1) := by decide +kernel
theorem dX5_pattern_64 : decode cX5_pattern 64 = .ok (.iload_n 2, 1) := by decide +kernel
theorem dX5_pattern_65 : decode cX5_pattern 65 = .ok (.aload_n 0, 1) := by decide +kernel
theorem dX5_pattern_66 : decode cX5_pattern 66 = .ok (.getfield 70, 3) := by decide +kernel
theorem dX5_pattern_69 : decode cX5_pattern 69 = .ok (.if_icmp .ge 47, 3) := by decide +kernel
theorem dX5_pattern_72 : decode cX5_pattern 72 = .ok (.aload_n 0, 1) := by decide +kernel
theorem dX5_pattern_73 : decode cX5_pattern 73 = .ok (.getfield 13, 3) := by decide +kernel
theorem dX5_pattern_76 : decode cX5_pattern 76 = .ok (.bipush 6, 2) := by decide +kernel
theorem dX5_pattern_78 : decode cX5_pattern 78 = .ok (.aload_n 0, 1) := by decide +kernel
theorem dX5_pattern_79 : decode cX5_pattern 79 = .ok (.getfield 57, 3) := by decide +kernel
theorem dX5_pattern_82 : decode cX5_pattern 82 = .ok (.imul, 1) := by decide +kernel
theorem dX5_pattern_83 : decode cX5_pattern 83 = .ok (.iload_n 2, 1) := by decide +kernel
theorem dX5_pattern_84 : decode cX5_pattern 84 = .ok (.iadd, 1) := by decide +kernel
theorem dX5_pattern_85 : decode cX5_pattern 85 = .ok (.aload_n 0, 1) := by decide +kernel
theorem dX5_pattern_86 : decode cX5_pattern 86 = .ok (.getfield 7, 3) := by decide +kernel
theorem dX5_pattern_89 : decode cX5_pattern 89 = .ok (.iload_n 2, 1) := by decide +kernel
theorem dX5_pattern_90 : decode cX5_pattern 90 = .ok (.iaload, 1) := by decide +kernel
theorem dX5_pattern_91 : decode cX5_pattern 91 = .ok (.iastore, 1) := by decide +kernel
theorem dX5_pattern_92 : decode cX5_pattern 92 = .ok (.aload_n 0, 1) := by decide +kernel
theorem dX5_pattern_93 : decode cX5_pattern 93 = .ok (.getfield 19, 3) := by decide +kernel
theorem dX5_pattern_96 : decode cX5_pattern 96 = .ok (.aload_n 0, 1) := by decide +kernel
theorem dX5_pattern_97 : decode cX5_pattern 97 = .ok (.getfield 57, 3) := by decide +kernel
theorem dX5_pattern_100 : decode cX5_pattern 100 = .ok (.dup2, 1) := by decide +kernel
theorem dX5_pattern_101 : decode cX5_pattern 101 = .ok (.iaload, 1) := by decide +kernel
theorem dX5_pattern_102 : decode cX5_pattern 102 = .ok (.aload_n 0, 1) := by decide +kernel
theorem dX5_pattern_103 : decode cX5_pattern 103 = .ok (.getfield 7, 3) := by decide +kernel
theorem dX5_pattern_106 : decode cX5_pattern 106 = .ok (.iload_n 2, 1) := by decide +kernel
theorem dX5_pattern_107 : decode cX5_pattern 107 = .ok (.iaload, 1) := by decide +kernel
theorem dX5_pattern_108 : decode cX5_pattern 108 = .ok (.iadd, 1) := by decide +kernel
theorem dX5_pattern_109 : decode cX5_pattern 109 = .ok (.iastore, 1) := by decide +kernel
theorem dX5_pattern_110 : decode cX5_pattern 110 = .ok (.iinc 2 1, 3) := by decide +kernel
theorem dX5_pattern_113 : decode cX5_pattern 113 = .ok (.goto (-49), 3) := by decide +kernel
theorem dX5_pattern_116 : decode cX5_pattern 116 = .ok (.aload_n 0, 1) := by decide +kernel
theorem dX5_pattern_117 : decode cX5_pattern 117 = .ok (.getfield 16, 3) := by decide +kernel
theorem dX5_pattern_120 : decode cX5_pattern 120 = .ok (.aload_n 0, 1) := by decide +kernel
theorem dX5_pattern_121 : decode cX5_pattern 121 = .ok (.getfield 57, 3) := by decide +kernel
theorem dX5_pattern_124 : decode cX5_pattern 124 = .ok (.aload_n 0, 1) := by decide +kernel
theorem dX5_pattern_125 : decode cX5_pattern 125 = .ok (.getfield 70, 3) := by decide +kernel
theorem dX5_pattern_128 : decode cX5_pattern 128 = .ok (.iastore, 1) := by decide +kernel
theorem dX5_pattern_129 : decode cX5_pattern 129 = .ok (.aload_n 0, 1) := by decide +kernel
theorem dX5_pattern_130 : decode cX5_pattern 130 = .ok (.iconst 0, 1) := by decide +kernel
theorem dX5_pattern_131 : decode cX5_pattern 131 = .ok (.putfield 70, 3) := by decide +kernel
theorem dX5_pattern_134 : decode cX5_pattern 134 = .ok (.aload_n 0, 1) := by decide +kernel
theorem dX5_pattern_135 : decode cX5_pattern 135 = .ok (.dup, 1) := by decide +kernel
theorem dX5_pattern_136 : decode cX5_pattern 136 = .ok (.getfield 57, 3) := by decide +kernel
theorem dX5_pattern_139 : decode cX5_pattern 139 = .ok (.iconst 1, 1) := by decide +kernel
theorem dX5_pattern_140 : decode cX5_pattern 140 = .ok (.iadd, 1) := by decide +kernel
theorem dX5_pattern_141 : decode cX5_pattern 141 = .ok (.putfield 57, 3) := by decide +kernel
theorem dX5_pattern_144 : decode cX5_pattern 144 = .ok (.aload_n 0, 1) := by decide +kernel
theorem dX5_pattern_145 : decode cX5_pattern 145 = .ok (.getfield 57, 3) := by decide +kernel
theorem dX5_pattern_148 : decode cX5_pattern 148 = .ok (.iconst 1, 1) := by decide +kernel
theorem dX5_pattern_149 : decode cX5_pattern 149 = .ok (.isub, 1) := by decide +kernel
theorem dX5_pattern_150 : decode cX5_pattern 150 = .ok (.ireturn, 1) := by decide +kernel
theorem dX5_period_0 : decode cX5_period 0 = .ok (.aload_n 0, 1) := by decide +kernel
theorem dX5_period_1 : decode cX5_period 1 = .ok (.aload_n 0, 1) := by decide +kernel
theorem dX5_period_2 : decode cX5_period 2 = .ok (.iload_n 1, 1) := by decide +kernel
theorem dX5_period_3 : decode cX5_period 3 = .ok (.invokevirtual 73, 3) := by decide +kernel
theorem dX5_period_6 : decode cX5_period 6 = .ok (.ifCond .eq 7, 3) := by decide +kernel
theorem dX5_period_9 : decode cX5_period 9 = .ok (.iconst 0, 1) := by decide +kernel
theorem dX5_period_10 : decode cX5_period 10 = .ok (.goto 4, 3) := by decide +kernel
theorem dX5_period_13 : decode cX5_period 13 = .ok (.iconst 1, 1) := by decide +kernel
theorem dX5_period_14 : decode cX5_period 14 = .ok (.putfield 53, 3) := by decide +kernel
theorem dX5_period_17 : decode cX5_period 17 = .ok (.aload_n 0, 1) := by decide +kernel
theorem dX5_period_18 : decode cX5_period 18 = .ok (.getfield 53, 3) := by decide +kernel
theorem dX5_period_21 : decode cX5_period 21 = .ok (.ifCond .le 7, 3) := by decide +kernel
theorem dX5_period_24 : decode cX5_period 24 = .ok (.iconst 0, 1) := by decide +kernel
theorem dX5_period_25 : decode cX5_period 25 = .ok (.goto 9, 3) := by decide +kernel
theorem dX5_period_28 : decode cX5_period 28 = .ok (.aload_n 0, 1) := by decide +kernel
theorem dX5_period_29 : decode cX5_period 29 = .ok (.getfield 19, 3) := by decide +kernel
theorem dX5_period_32 : decode cX5_period 32 = .ok (.iload_n 1, 1) := by decide +kernel
theorem dX5_period_33 : decode cX5_period 33 = .ok (.iaload, 1) := by decide +kernel
theorem dX5_period_34 : decode cX5_period 34 = .ok (.ireturn, 1) := by decide +kernel
theorem dX5_isLight_0 : decode cX5_isLight 0 = .ok (.iload_n 2, 1) := by decide +kernel
theorem dX5_isLight_1 : decode cX5_isLight 1 = .ok (.aload_n 0, 1) := by decide +kernel
theorem dX5_isLight_2 : decode cX5_isLight 2 = .ok (.getfield 19, 3) := by decide +kernel
theorem dX5_isLight_5 : decode cX5_isLight 5 = .ok (.iload_n 1, 1) := by decide +kernel
theorem dX5_isLight_6 : decode cX5_isLight 6 = .ok (.iaload, 1) := by decide +kernel
theorem dX5_isLight_7 : decode cX5_isLight 7 = .ok (.irem, 1) := by decide +kernel
theorem dX5_isLight_8 : decode cX5_isLight 8 = .ok (.istore_n 3, 1) := by decide +kernel
theorem dX5_isLight_9 : decode cX5_isLight 9 = .ok (.iconst 0, 1) := by decide +kernel
theorem dX5_isLight_10 : decode cX5_isLight 10 = .ok (.istore 4, 2) := by decide +kernel
theorem dX5_isLight_12 : decode cX5_isLight 12 = .ok (.iload_n 3, 1) := by decide +kernel
theorem dX5_isLight_13 : decode cX5_isLight 13 = .ok (.aload_n 0, 1) := by decide +kernel
theorem dX5_isLight_14 : decode cX5_isLight 14 = .ok (.getfield 13, 3) := by decide +kernel
theorem dX5_isLight_17 : decode cX5_isLight 17 = .ok (.bipush 6, 2) := by decide +kernel
theorem dX5_isLight_19 : decode cX5_isLight 19 = .ok (.iload_n 1, 1) := by decide +kernel
theorem dX5_isLight_20 : decode cX5_isLight 20 = .ok (.imul, 1) := by decide +kernel
theorem dX5_isLight_21 : decode cX5_isLight 21 = .ok (.iload 4, 2) := by decide +kernel
theorem dX5_isLight_23 : decode cX5_isLight 23 = .ok (.iadd, 1) := by decide +kernel
theorem dX5_isLight_24 : decode cX5_isLight 24 = .ok (.iaload, 1) := by decide +kernel
theorem dX5_isLight_25 : decode cX5_isLight 25 = .ok (.if_icmp .lt 24, 3) := by decide +kernel
theorem dX5_isLight_28 : decode cX5_isLight 28 = .ok (.iload_n 3, 1) := by decide +kernel
theorem dX5_isLight_29 : decode cX5_isLight 29 = .ok (.aload_n 0, 1) := by decide +kernel
theorem dX5_isLight_30 : decode cX5_isLight 30 = .ok (.getfield 13, 3) := by decide +kernel
theorem dX5_isLight_33 : decode cX5_isLight 33 = .ok (.bipush 6, 2) := by decide +kernel
theorem dX5_isLight_35 : decode cX5_isLight 35 = .ok (.iload_n 1, 1) := by decide +kernel
theorem dX5_isLight_36 : decode cX5_isLight 36 = .ok (.imul, 1) := by decide +kernel
theorem dX5_isLight_37 : decode cX5_isLight 37 = .ok (.iload 4, 2) := by decide +kernel
theorem dX5_isLight_39 : decode cX5_isLight 39 = .ok (.iadd, 1) := by decide +kernel
theorem dX5_isLight_40 : decode cX5_isLight 40 = .ok (.iaload, 1) := by decide +kernel
theorem dX5_isLight_41 : decode cX5_isLight 41 = .ok (.isub, 1) := by decide +kernel
theorem dX5_isLight_42 : decode cX5_isLight 42 = .ok (.istore_n 3, 1) := by decide +kernel
theorem dX5_isLight_43 : decode cX5_isLight 43 = .ok (.iinc 4 1, 3) := by decide +kernel
theorem dX5_isLight_46 : decode cX5_isLight 46 = .ok (.goto (-34), 3) := by decide +kernel
theorem dX5_isLight_49 : decode cX5_isLight 49 = .ok (.iload 4, 2) := by decide +kernel
theorem dX5_isLight_51 : decode cX5_isLight 51 = .ok (.iconst 2, 1) := by decide +kernel
theorem dX5_isLight_52 : decode cX5_isLight 52 = .ok (.irem, 1) := by decide +kernel
theorem dX5_isLight_53 : decode cX5_isLight 53 = .ok (.ifCond .ne 7, 3) := by decide +kernel
theorem dX5_isLight_56 : decode cX5_isLight 56 = .ok (.iconst 1, 1) := by decide +kernel
theorem dX5_isLight_57 : decode cX5_isLight 57 = .ok (.goto 4, 3) := by decide +kernel
theorem dX5_isLight_60 : decode cX5_isLight 60 = .ok (.iconst 0, 1) := by decide +kernel
theorem dX5_isLight_61 : decode cX5_isLight 61 = .ok (.ireturn, 1) := by decide +kernel
theorem dX5_returns_0 : decode cX5_returns 0 = .ok (.aload_n 0, 1) := by decide +kernel
theorem dX5_returns_1 : decode cX5_returns 1 = .ok (.getfield 19, 3) := by decide +kernel
theorem dX5_returns_4 : decode cX5_returns 4 = .ok (.iload_n 1, 1) := by decide +kernel
theorem dX5_returns_5 : decode cX5_returns 5 = .ok (.iaload, 1) := by decide +kernel
theorem dX5_returns_6 : decode cX5_returns 6 = .ok (.istore_n 2, 1) := by decide +kernel
theorem dX5_returns_7 : decode cX5_returns 7 = .ok (.iconst 1, 1) := by decide +kernel
theorem dX5_returns_8 : decode cX5_returns 8 = .ok (.istore_n 3, 1) := by decide +kernel
theorem dX5_returns_9 : decode cX5_returns 9 = .ok (.iload_n 3, 1) := by decide +kernel
theorem dX5_returns_10 : decode cX5_returns 10 = .ok (.iload_n 2, 1) := by decide +kernel
theorem dX5_returns_11 : decode cX5_returns 11 = .ok (.if_icmp .ge 75, 3) := by decide +kernel
theorem dX5_returns_14 : decode cX5_returns 14 = .ok (.iload_n 2, 1) := by decide +kernel
theorem dX5_returns_15 : decode cX5_returns 15 = .ok (.iload_n 3, 1) := by decide +kernel
theorem dX5_returns_16 : decode cX5_returns 16 = .ok (.irem, 1) := by decide +kernel
theorem dX5_returns_17 : decode cX5_returns 17 = .ok (.ifCond .ne 7, 3) := by decide +kernel
theorem dX5_returns_20 : decode cX5_returns 20 = .ok (.iconst 1, 1) := by decide +kernel
theorem dX5_returns_21 : decode cX5_returns 21 = .ok (.goto 4, 3) := by decide +kernel
theorem dX5_returns_24 : decode cX5_returns 24 = .ok (.iconst 0, 1) := by decide +kernel
theorem dX5_returns_25 : decode cX5_returns 25 = .ok (.istore 4, 2) := by decide +kernel
theorem dX5_returns_27 : decode cX5_returns 27 = .ok (.iconst 0, 1) := by decide +kernel
theorem dX5_returns_28 : decode cX5_returns 28 = .ok (.istore 5, 2) := by decide +kernel
theorem dX5_returns_30 : decode cX5_returns 30 = .ok (.iload 5, 2) := by decide +kernel
theorem dX5_returns_32 : decode cX5_returns 32 = .ok (.iload_n 2, 1) := by decide +kernel
theorem dX5_returns_33 : decode cX5_returns 33 = .ok (.if_icmp .ge 40, 3) := by decide +kernel
theorem dX5_returns_36 : decode cX5_returns 36 = .ok (.iload 4, 2) := by decide +kernel
theorem dX5_returns_38 : decode cX5_returns 38 = .ok (.ifCond .eq 35, 3) := by decide +kernel
theorem dX5_returns_41 : decode cX5_returns 41 = .ok (.aload_n 0, 1) := by decide +kernel
theorem dX5_returns_42 : decode cX5_returns 42 = .ok (.iload_n 1, 1) := by decide +kernel
theorem dX5_returns_43 : decode cX5_returns 43 = .ok (.iload 5, 2) := by decide +kernel
theorem dX5_returns_45 : decode cX5_returns 45 = .ok (.invokevirtual 77, 3) := by decide +kernel
theorem dX5_returns_48 : decode cX5_returns 48 = .ok (.aload_n 0, 1) := by decide +kernel
theorem dX5_returns_49 : decode cX5_returns 49 = .ok (.iload_n 1, 1) := by decide +kernel
theorem dX5_returns_50 : decode cX5_returns 50 = .ok (.iload 5, 2) := by decide +kernel
theorem dX5_returns_52 : decode cX5_returns 52 = .ok (.iload_n 3, 1) := by decide +kernel
theorem dX5_returns_53 : decode cX5_returns 53 = .ok (.iadd, 1) := by decide +kernel
theorem dX5_returns_54 : decode cX5_returns 54 = .ok (.invokevirtual 77, 3) := by decide +kernel
theorem dX5_returns_57 : decode cX5_returns 57 = .ok (.if_icmp .ne 7, 3) := by decide +kernel
theorem dX5_returns_60 : decode cX5_returns 60 = .ok (.iconst 1, 1) := by decide +kernel
theorem dX5_returns_61 : decode cX5_returns 61 = .ok (.goto 4, 3) := by decide +kernel
theorem dX5_returns_64 : decode cX5_returns 64 = .ok (.iconst 0, 1) := by decide +kernel
theorem dX5_returns_65 : decode cX5_returns 65 = .ok (.istore 4, 2) := by decide +kernel
theorem dX5_returns_67 : decode cX5_returns 67 = .ok (.iinc 5 1, 3) := by decide +kernel
theorem dX5_returns_70 : decode cX5_returns 70 = .ok (.goto (-40), 3) := by decide +kernel
theorem dX5_returns_73 : decode cX5_returns 73 = .ok (.iload 4, 2) := by decide +kernel
theorem dX5_returns_75 : decode cX5_returns 75 = .ok (.ifCond .eq 5, 3) := by decide +kernel
theorem dX5_returns_78 : decode cX5_returns 78 = .ok (.iload_n 3, 1) := by decide +kernel
theorem dX5_returns_79 : decode cX5_returns 79 = .ok (.ireturn, 1) := by decide +kernel
theorem dX5_returns_80 : decode cX5_returns 80 = .ok (.iinc 3 1, 3) := by decide +kernel
theorem dX5_returns_83 : decode cX5_returns 83 = .ok (.goto (-74), 3) := by decide +kernel
theorem dX5_returns_86 : decode cX5_returns 86 = .ok (.iload_n 2, 1) := by decide +kernel
theorem dX5_returns_87 : decode cX5_returns 87 = .ok (.ireturn, 1) := by decide +kernel
theorem dX5_alike_0 : decode cX5_alike 0 = .ok (.aload_n 0, 1) := by decide +kernel
theorem dX5_alike_1 : decode cX5_alike 1 = .ok (.iload_n 1, 1) := by decide +kernel
theorem dX5_alike_2 : decode cX5_alike 2 = .ok (.invokevirtual 81, 3) := by decide +kernel
theorem dX5_alike_5 : decode cX5_alike 5 = .ok (.istore_n 3, 1) := by decide +kernel
theorem dX5_alike_6 : decode cX5_alike 6 = .ok (.iconst 0, 1) := by decide +kernel
theorem dX5_alike_7 : decode cX5_alike 7 = .ok (.istore 4, 2) := by decide +kernel
theorem dX5_alike_9 : decode cX5_alike 9 = .ok (.iconst 0, 1) := by decide +kernel
theorem dX5_alike_10 : decode cX5_alike 10 = .ok (.istore 5, 2) := by decide +kernel
theorem dX5_alike_12 : decode cX5_alike 12 = .ok (.iload 5, 2) := by decide +kernel
theorem dX5_alike_14 : decode cX5_alike 14 = .ok (.iload_n 3, 1) := by decide +kernel
theorem dX5_alike_15 : decode cX5_alike 15 = .ok (.if_icmp .ge 73, 3) := by decide +kernel
theorem dX5_alike_18 : decode cX5_alike 18 = .ok (.iload_n 3, 1) := by decide +kernel
theorem dX5_alike_19 : decode cX5_alike 19 = .ok (.aload_n 0, 1) := by decide +kernel
theorem dX5_alike_20 : decode cX5_alike 20 = .ok (.iload_n 2, 1) := by decide +kernel
theorem dX5_alike_21 : decode cX5_alike 21 = .ok (.invokevirtual 81, 3) := by decide +kernel
theorem dX5_alike_24 : decode cX5_alike 24 = .ok (.if_icmp .ne 64, 3) := by decide +kernel
theorem dX5_alike_27 : decode cX5_alike 27 = .ok (.iconst 1, 1) := by decide +kernel
theorem dX5_alike_28 : decode cX5_alike 28 = .ok (.istore 6, 2) := by decide +kernel
theorem dX5_alike_30 : decode cX5_alike 30 = .ok (.iconst 0, 1) := by decide +kernel
theorem dX5_alike_31 : decode cX5_alike 31 = .ok (.istore 7, 2) := by decide +kernel
theorem dX5_alike_33 : decode cX5_alike 33 = .ok (.iload 7, 2) := by decide +kernel
theorem dX5_alike_35 : decode cX5_alike 35 = .ok (.iload_n 3, 1) := by decide +kernel
theorem dX5_alike_36 : decode cX5_alike 36 = .ok (.if_icmp .ge 39, 3) := by decide +kernel
theorem dX5_alike_39 : decode cX5_alike 39 = .ok (.iload 6, 2) := by decide +kernel
theorem dX5_alike_41 : decode cX5_alike 41 = .ok (.aload_n 0, 1) := by decide +kernel
theorem dX5_alike_42 : decode cX5_alike 42 = .ok (.iload_n 1, 1) := by decide +kernel
theorem dX5_alike_43 : decode cX5_alike 43 = .ok (.iload 7, 2) := by decide +kernel
theorem dX5_alike_45 : decode cX5_alike 45 = .ok (.iload 5, 2) := by decide +kernel
theorem dX5_alike_47 : decode cX5_alike 47 = .ok (.iadd, 1) := by decide +kernel
theorem dX5_alike_48 : decode cX5_alike 48 = .ok (.invokevirtual 77, 3) := by decide +kernel
theorem dX5_alike_51 : decode cX5_alike 51 = .ok (.aload_n 0, 1) := by decide +kernel
theorem dX5_alike_52 : decode cX5_alike 52 = .ok (.iload_n 2, 1) := by decide +kernel
theorem dX5_alike_53 : decode cX5_alike 53 = .ok (.iload 7, 2) := by decide +kernel
theorem dX5_alike_55 : decode cX5_alike 55 = .ok (.invokevirtual 77, 3) := by decide +kernel
theorem dX5_alike_58 : decode cX5_alike 58 = .ok (.if_icmp .ne 7, 3) := by decide +kernel
theorem dX5_alike_61 : decode cX5_alike 61 = .ok (.iconst 1, 1) := by decide +kernel
theorem dX5_alike_62 : decode cX5_alike 62 = .ok (.goto 4, 3) := by decide +kernel
theorem dX5_alike_65 : decode cX5_alike 65 = .ok (.iconst 0, 1) := by decide +kernel
theorem dX5_alike_66 : decode cX5_alike 66 = .ok (.iand, 1) := by decide +kernel
theorem dX5_alike_67 : decode cX5_alike 67 = .ok (.istore 6, 2) := by decide +kernel
theorem dX5_alike_69 : decode cX5_alike 69 = .ok (.iinc 7 1, 3) := by decide +kernel
theorem dX5_alike_72 : decode cX5_alike 72 = .ok (.goto (-39), 3) := by decide +kernel
theorem dX5_alike_75 : decode cX5_alike 75 = .ok (.iload 4, 2) := by decide +kernel
theorem dX5_alike_77 : decode cX5_alike 77 = .ok (.iload 6, 2) := by decide +kernel
theorem dX5_alike_79 : decode cX5_alike 79 = .ok (.ior, 1) := by decide +kernel
theorem dX5_alike_80 : decode cX5_alike 80 = .ok (.istore 4, 2) := by decide +kernel
theorem dX5_alike_82 : decode cX5_alike 82 = .ok (.iinc 5 1, 3) := by decide +kernel
theorem dX5_alike_85 : decode cX5_alike 85 = .ok (.goto (-73), 3) := by decide +kernel
theorem dX5_alike_88 : decode cX5_alike 88 = .ok (.iload 4, 2) := by decide +kernel
theorem dX5_alike_90 : decode cX5_alike 90 = .ok (.ireturn, 1) := by decide +kernel
theorem dX5_asksAlike_0 : decode cX5_asksAlike 0 = .ok (.aload_n 0, 1) := by decide +kernel
theorem dX5_asksAlike_1 : decode cX5_asksAlike 1 = .ok (.aload_n 0, 1) := by decide +kernel
theorem dX5_asksAlike_2 : decode cX5_asksAlike 2 = .ok (.iload_n 1, 1) := by decide +kernel
theorem dX5_asksAlike_3 : decode cX5_asksAlike 3 = .ok (.invokevirtual 73, 3) := by decide +kernel
theorem dX5_asksAlike_6 : decode cX5_asksAlike 6 = .ok (.ifCond .eq 15, 3) := by decide +kernel
theorem dX5_asksAlike_9 : decode cX5_asksAlike 9 = .ok (.aload_n 0, 1) := by decide +kernel
theorem dX5_asksAlike_10 : decode cX5_asksAlike 10 = .ok (.iload_n 2, 1) := by decide +kernel
theorem dX5_asksAlike_11 : decode cX5_asksAlike 11 = .ok (.invokevirtual 73, 3) := by decide +kernel
theorem dX5_asksAlike_14 : decode cX5_asksAlike 14 = .ok (.ifCond .eq 7, 3) := by decide +kernel
theorem dX5_asksAlike_17 : decode cX5_asksAlike 17 = .ok (.iconst 0, 1) := by decide +kernel
theorem dX5_asksAlike_18 : decode cX5_asksAlike 18 = .ok (.goto 4, 3) := by decide +kernel
theorem dX5_asksAlike_21 : decode cX5_asksAlike 21 = .ok (.iconst 1, 1) := by decide +kernel
theorem dX5_asksAlike_22 : decode cX5_asksAlike 22 = .ok (.putfield 53, 3) := by decide +kernel
theorem dX5_asksAlike_25 : decode cX5_asksAlike 25 = .ok (.aload_n 0, 1) := by decide +kernel
theorem dX5_asksAlike_26 : decode cX5_asksAlike 26 = .ok (.getfield 53, 3) := by decide +kernel
theorem dX5_asksAlike_29 : decode cX5_asksAlike 29 = .ok (.ifCond .ne 16, 3) := by decide +kernel
theorem dX5_asksAlike_32 : decode cX5_asksAlike 32 = .ok (.aload_n 0, 1) := by decide +kernel
theorem dX5_asksAlike_33 : decode cX5_asksAlike 33 = .ok (.iload_n 1, 1) := by decide +kernel
theorem dX5_asksAlike_34 : decode cX5_asksAlike 34 = .ok (.iload_n 2, 1) := by decide +kernel
theorem dX5_asksAlike_35 : decode cX5_asksAlike 35 = .ok (.invokevirtual 85, 3) := by decide +kernel
theorem dX5_asksAlike_38 : decode cX5_asksAlike 38 = .ok (.ifCond .eq 7, 3) := by decide +kernel
theorem dX5_asksAlike_41 : decode cX5_asksAlike 41 = .ok (.iconst 1, 1) := by decide +kernel
theorem dX5_asksAlike_42 : decode cX5_asksAlike 42 = .ok (.goto 4, 3) := by decide +kernel
theorem dX5_asksAlike_45 : decode cX5_asksAlike 45 = .ok (.iconst 0, 1) := by decide +kernel
theorem dX5_asksAlike_46 : decode cX5_asksAlike 46 = .ok (.ireturn, 1) := by decide +kernel
theorem dX5_areAlike_0 : decode cX5_areAlike 0 = .ok (.aload_n 0, 1) := by decide +kernel
theorem dX5_areAlike_1 : decode cX5_areAlike 1 = .ok (.iload_n 1, 1) := by decide +kernel
theorem dX5_areAlike_2 : decode cX5_areAlike 2 = .ok (.iload_n 2, 1) := by decide +kernel
theorem dX5_areAlike_3 : decode cX5_areAlike 3 = .ok (.invokevirtual 88, 3) := by decide +kernel
theorem dX5_areAlike_6 : decode cX5_areAlike 6 = .ok (.ireturn, 1) := by decide +kernel
theorem dX5_areAlikeBySeconds_0 : decode cX5_areAlikeBySeconds 0 = .ok (.aload_n 0, 1) := by decide +kernel
theorem dX5_areAlikeBySeconds_1 : decode cX5_areAlikeBySeconds 1 = .ok (.iload_n 1, 1) := by decide +kernel
theorem dX5_areAlikeBySeconds_2 : decode cX5_areAlikeBySeconds 2 = .ok (.iload_n 2, 1) := by decide +kernel
theorem dX5_areAlikeBySeconds_3 : decode cX5_areAlikeBySeconds 3 = .ok (.invokevirtual 88, 3) := by decide +kernel
theorem dX5_areAlikeBySeconds_6 : decode cX5_areAlikeBySeconds 6 = .ok (.ireturn, 1) := by decide +kernel
theorem dX5_tells_0 : decode cX5_tells 0 = .ok (.aload_n 0, 1) := by decide +kernel
theorem dX5_tells_1 : decode cX5_tells 1 = .ok (.getfield 44, 3) := by decide +kernel
theorem dX5_tells_4 : decode cX5_tells 4 = .ok (.aload_n 0, 1) := by decide +kernel
theorem dX5_tells_5 : decode cX5_tells 5 = .ok (.getfield 91, 3) := by decide +kernel
theorem dX5_tells_8 : decode cX5_tells 8 = .ok (.bipush 32, 2) := by decide +kernel
theorem dX5_tells_10 : decode cX5_tells 10 = .ok (.iload_n 1, 1) := by decide +kernel
theorem dX5_tells_11 : decode cX5_tells 11 = .ok (.imul, 1) := by decide +kernel
theorem dX5_tells_12 : decode cX5_tells 12 = .ok (.aload_n 0, 1) := by decide +kernel
theorem dX5_tells_13 : decode cX5_tells 13 = .ok (.getfield 40, 3) := by decide +kernel
theorem dX5_tells_16 : decode cX5_tells 16 = .ok (.iload_n 1, 1) := by decide +kernel
theorem dX5_tells_17 : decode cX5_tells 17 = .ok (.baload, 1) := by decide +kernel
theorem dX5_tells_18 : decode cX5_tells 18 = .ok (.ifCond .eq 8, 3) := by decide +kernel
theorem dX5_tells_21 : decode cX5_tells 21 = .ok (.bipush 31, 2) := by decide +kernel
theorem dX5_tells_23 : decode cX5_tells 23 = .ok (.goto 9, 3) := by decide +kernel
theorem dX5_tells_26 : decode cX5_tells 26 = .ok (.aload_n 0, 1) := by decide +kernel
theorem dX5_tells_27 : decode cX5_tells 27 = .ok (.getfield 28, 3) := by decide +kernel
theorem dX5_tells_30 : decode cX5_tells 30 = .ok (.iload_n 1, 1) := by decide +kernel
theorem dX5_tells_31 : decode cX5_tells 31 = .ok (.iaload, 1) := by decide +kernel
theorem dX5_tells_32 : decode cX5_tells 32 = .ok (.iadd, 1) := by decide +kernel
theorem dX5_tells_33 : decode cX5_tells 33 = .ok (.iastore, 1) := by decide +kernel
theorem dX5_tells_34 : decode cX5_tells 34 = .ok (.aload_n 0, 1) := by decide +kernel
theorem dX5_tells_35 : decode cX5_tells 35 = .ok (.dup, 1) := by decide +kernel
theorem dX5_tells_36 : decode cX5_tells 36 = .ok (.getfield 91, 3) := by decide +kernel
theorem dX5_tells_39 : decode cX5_tells 39 = .ok (.iconst 1, 1) := by decide +kernel
theorem dX5_tells_40 : decode cX5_tells 40 = .ok (.iadd, 1) := by decide +kernel
theorem dX5_tells_41 : decode cX5_tells 41 = .ok (.putfield 91, 3) := by decide +kernel
theorem dX5_tells_44 : decode cX5_tells 44 = .ok (.aload_n 0, 1) := by decide +kernel
theorem dX5_tells_45 : decode cX5_tells 45 = .ok (.getfield 91, 3) := by decide +kernel
theorem dX5_tells_48 : decode cX5_tells 48 = .ok (.iconst 1, 1) := by decide +kernel
theorem dX5_tells_49 : decode cX5_tells 49 = .ok (.isub, 1) := by decide +kernel
theorem dX5_tells_50 : decode cX5_tells 50 = .ok (.ireturn, 1) := by decide +kernel
theorem dX5_lamp_0 : decode cX5_lamp 0 = .ok (.iload_n 1, 1) := by decide +kernel
theorem dX5_lamp_1 : decode cX5_lamp 1 = .ok (.iload_n 2, 1) := by decide +kernel
theorem dX5_lamp_2 : decode cX5_lamp 2 = .ok (.invokestatic 94, 3) := by decide +kernel
theorem dX5_lamp_5 : decode cX5_lamp 5 = .ok (.ifCond .eq 30, 3) := by decide +kernel
theorem dX5_lamp_8 : decode cX5_lamp 8 = .ok (.iload 4, 2) := by decide +kernel
theorem dX5_lamp_10 : decode cX5_lamp 10 = .ok (.iconst 1, 1) := by decide +kernel
theorem dX5_lamp_11 : decode cX5_lamp 11 = .ok (.bipush 40, 2) := by decide +kernel
theorem dX5_lamp_13 : decode cX5_lamp 13 = .ok (.invokestatic 60, 3) := by decide +kernel
theorem dX5_lamp_16 : decode cX5_lamp 16 = .ok (.ifCond .eq 19, 3) := by decide +kernel
theorem dX5_lamp_19 : decode cX5_lamp 19 = .ok (.iload 5, 2) := by decide +kernel
theorem dX5_lamp_21 : decode cX5_lamp 21 = .ok (.iconst 1, 1) := by decide +kernel
theorem dX5_lamp_22 : decode cX5_lamp 22 = .ok (.sipush 255, 3) := by decide +kernel
theorem dX5_lamp_25 : decode cX5_lamp 25 = .ok (.invokestatic 60, 3) := by decide +kernel
theorem dX5_lamp_28 : decode cX5_lamp 28 = .ok (.ifCond .eq 7, 3) := by decide +kernel
theorem dX5_lamp_31 : decode cX5_lamp 31 = .ok (.iconst 1, 1) := by decide +kernel
theorem dX5_lamp_32 : decode cX5_lamp 32 = .ok (.goto 4, 3) := by decide +kernel
theorem dX5_lamp_35 : decode cX5_lamp 35 = .ok (.iconst 0, 1) := by decide +kernel
theorem dX5_lamp_36 : decode cX5_lamp 36 = .ok (.istore 6, 2) := by decide +kernel
theorem dX5_lamp_38 : decode cX5_lamp 38 = .ok (.aload_n 0, 1) := by decide +kernel
theorem dX5_lamp_39 : decode cX5_lamp 39 = .ok (.aload_n 0, 1) := by decide +kernel
theorem dX5_lamp_40 : decode cX5_lamp 40 = .ok (.iload_n 3, 1) := by decide +kernel
theorem dX5_lamp_41 : decode cX5_lamp 41 = .ok (.invokevirtual 73, 3) := by decide +kernel
theorem dX5_lamp_44 : decode cX5_lamp 44 = .ok (.ifCond .ne 7, 3) := by decide +kernel
theorem dX5_lamp_47 : decode cX5_lamp 47 = .ok (.iconst 1, 1) := by decide +kernel
theorem dX5_lamp_48 : decode cX5_lamp 48 = .ok (.goto 26, 3) := by decide +kernel
theorem dX5_lamp_51 : decode cX5_lamp 51 = .ok (.iload 6, 2) := by decide +kernel
theorem dX5_lamp_53 : decode cX5_lamp 53 = .ok (.ifCond .ne 7, 3) := by decide +kernel
theorem dX5_lamp_56 : decode cX5_lamp 56 = .ok (.iconst 2, 1) := by decide +kernel
theorem dX5_lamp_57 : decode cX5_lamp 57 = .ok (.goto 17, 3) := by decide +kernel
theorem dX5_lamp_60 : decode cX5_lamp 60 = .ok (.aload_n 0, 1) := by decide +kernel
theorem dX5_lamp_61 : decode cX5_lamp 61 = .ok (.getfield 64, 3) := by decide +kernel
theorem dX5_lamp_64 : decode cX5_lamp 64 = .ok (.bipush 12, 2) := by decide +kernel
theorem dX5_lamp_66 : decode cX5_lamp 66 = .ok (.if_icmp .ne 7, 3) := by decide +kernel
theorem dX5_lamp_69 : decode cX5_lamp 69 = .ok (.iconst 3, 1) := by decide +kernel
theorem dX5_lamp_70 : decode cX5_lamp 70 = .ok (.goto 4, 3) := by decide +kernel
theorem dX5_lamp_73 : decode cX5_lamp 73 = .ok (.iconst 0, 1) := by decide +kernel
theorem dX5_lamp_74 : decode cX5_lamp 74 = .ok (.putfield 53, 3) := by decide +kernel
theorem dX5_lamp_77 : decode cX5_lamp 77 = .ok (.aload_n 0, 1) := by decide +kernel
theorem dX5_lamp_78 : decode cX5_lamp 78 = .ok (.getfield 53, 3) := by decide +kernel
theorem dX5_lamp_81 : decode cX5_lamp 81 = .ok (.ifCond .le 5, 3) := by decide +kernel
theorem dX5_lamp_84 : decode cX5_lamp 84 = .ok (.iconst 0, 1) := by decide +kernel
theorem dX5_lamp_85 : decode cX5_lamp 85 = .ok (.ireturn, 1) := by decide +kernel
theorem dX5_lamp_86 : decode cX5_lamp 86 = .ok (.aload_n 0, 1) := by decide +kernel
theorem dX5_lamp_87 : decode cX5_lamp 87 = .ok (.getfield 22, 3) := by decide +kernel
theorem dX5_lamp_90 : decode cX5_lamp 90 = .ok (.aload_n 0, 1) := by decide +kernel
theorem dX5_lamp_91 : decode cX5_lamp 91 = .ok (.getfield 64, 3) := by decide +kernel
theorem dX5_lamp_94 : decode cX5_lamp 94 = .ok (.iload_n 1, 1) := by decide +kernel
theorem dX5_lamp_95 : decode cX5_lamp 95 = .ok (.iastore, 1) := by decide +kernel
theorem dX5_lamp_96 : decode cX5_lamp 96 = .ok (.aload_n 0, 1) := by decide +kernel
theorem dX5_lamp_97 : decode cX5_lamp 97 = .ok (.getfield 25, 3) := by decide +kernel
theorem dX5_lamp_100 : decode cX5_lamp 100 = .ok (.aload_n 0, 1) := by decide +kernel
theorem dX5_lamp_101 : decode cX5_lamp 101 = .ok (.getfield 64, 3) := by decide +kernel
theorem dX5_lamp_104 : decode cX5_lamp 104 = .ok (.iload_n 2, 1) := by decide +kernel
theorem dX5_lamp_105 : decode cX5_lamp 105 = .ok (.iastore, 1) := by decide +kernel
theorem dX5_lamp_106 : decode cX5_lamp 106 = .ok (.aload_n 0, 1) := by decide +kernel
theorem dX5_lamp_107 : decode cX5_lamp 107 = .ok (.getfield 28, 3) := by decide +kernel
theorem dX5_lamp_110 : decode cX5_lamp 110 = .ok (.aload_n 0, 1) := by decide +kernel
theorem dX5_lamp_111 : decode cX5_lamp 111 = .ok (.getfield 64, 3) := by decide +kernel
theorem dX5_lamp_114 : decode cX5_lamp 114 = .ok (.iload_n 3, 1) := by decide +kernel
theorem dX5_lamp_115 : decode cX5_lamp 115 = .ok (.iastore, 1) := by decide +kernel
theorem dX5_lamp_116 : decode cX5_lamp 116 = .ok (.aload_n 0, 1) := by decide +kernel
theorem dX5_lamp_117 : decode cX5_lamp 117 = .ok (.getfield 34, 3) := by decide +kernel
theorem dX5_lamp_120 : decode cX5_lamp 120 = .ok (.aload_n 0, 1) := by decide +kernel
theorem dX5_lamp_121 : decode cX5_lamp 121 = .ok (.getfield 64, 3) := by decide +kernel
theorem dX5_lamp_124 : decode cX5_lamp 124 = .ok (.iload 4, 2) := by decide +kernel
theorem dX5_lamp_126 : decode cX5_lamp 126 = .ok (.iastore, 1) := by decide +kernel
theorem dX5_lamp_127 : decode cX5_lamp 127 = .ok (.aload_n 0, 1) := by decide +kernel
theorem dX5_lamp_128 : decode cX5_lamp 128 = .ok (.getfield 37, 3) := by decide +kernel
theorem dX5_lamp_131 : decode cX5_lamp 131 = .ok (.aload_n 0, 1) := by decide +kernel
theorem dX5_lamp_132 : decode cX5_lamp 132 = .ok (.getfield 64, 3) := by decide +kernel
theorem dX5_lamp_135 : decode cX5_lamp 135 = .ok (.iload 5, 2) := by decide +kernel
theorem dX5_lamp_137 : decode cX5_lamp 137 = .ok (.iastore, 1) := by decide +kernel
theorem dX5_lamp_138 : decode cX5_lamp 138 = .ok (.aload_n 0, 1) := by decide +kernel
theorem dX5_lamp_139 : decode cX5_lamp 139 = .ok (.dup, 1) := by decide +kernel
theorem dX5_lamp_140 : decode cX5_lamp 140 = .ok (.getfield 64, 3) := by decide +kernel
theorem dX5_lamp_143 : decode cX5_lamp 143 = .ok (.iconst 1, 1) := by decide +kernel
theorem dX5_lamp_144 : decode cX5_lamp 144 = .ok (.iadd, 1) := by decide +kernel
theorem dX5_lamp_145 : decode cX5_lamp 145 = .ok (.putfield 64, 3) := by decide +kernel
theorem dX5_lamp_148 : decode cX5_lamp 148 = .ok (.aload_n 0, 1) := by decide +kernel
theorem dX5_lamp_149 : decode cX5_lamp 149 = .ok (.aload_n 0, 1) := by decide +kernel
theorem dX5_lamp_150 : decode cX5_lamp 150 = .ok (.getfield 64, 3) := by decide +kernel
theorem dX5_lamp_153 : decode cX5_lamp 153 = .ok (.iconst 1, 1) := by decide +kernel
theorem dX5_lamp_154 : decode cX5_lamp 154 = .ok (.isub, 1) := by decide +kernel
theorem dX5_lamp_155 : decode cX5_lamp 155 = .ok (.invokevirtual 97, 3) := by decide +kernel
theorem dX5_lamp_158 : decode cX5_lamp 158 = .ok (.pop, 1) := by decide +kernel
theorem dX5_lamp_159 : decode cX5_lamp 159 = .ok (.aload_n 0, 1) := by decide +kernel
theorem dX5_lamp_160 : decode cX5_lamp 160 = .ok (.getfield 64, 3) := by decide +kernel
theorem dX5_lamp_163 : decode cX5_lamp 163 = .ok (.iconst 1, 1) := by decide +kernel
theorem dX5_lamp_164 : decode cX5_lamp 164 = .ok (.isub, 1) := by decide +kernel
theorem dX5_lamp_165 : decode cX5_lamp 165 = .ok (.ireturn, 1) := by decide +kernel
theorem dX5_change_0 : decode cX5_change 0 = .ok (.aload_n 0, 1) := by decide +kernel
theorem dX5_change_1 : decode cX5_change 1 = .ok (.aload_n 0, 1) := by decide +kernel
theorem dX5_change_2 : decode cX5_change 2 = .ok (.iload_n 1, 1) := by decide +kernel
theorem dX5_change_3 : decode cX5_change 3 = .ok (.invokevirtual 100, 3) := by decide +kernel
theorem dX5_change_6 : decode cX5_change 6 = .ok (.ifCond .eq 11, 3) := by decide +kernel
theorem dX5_change_9 : decode cX5_change 9 = .ok (.aload_n 0, 1) := by decide +kernel
theorem dX5_change_10 : decode cX5_change 10 = .ok (.iload_n 2, 1) := by decide +kernel
theorem dX5_change_11 : decode cX5_change 11 = .ok (.invokevirtual 73, 3) := by decide +kernel
theorem dX5_change_14 : decode cX5_change 14 = .ok (.ifCond .ne 7, 3) := by decide +kernel
theorem dX5_change_17 : decode cX5_change 17 = .ok (.iconst 1, 1) := by decide +kernel
theorem dX5_change_18 : decode cX5_change 18 = .ok (.goto 18, 3) := by decide +kernel
theorem dX5_change_21 : decode cX5_change 21 = .ok (.iload_n 3, 1) := by decide +kernel
theorem dX5_change_22 : decode cX5_change 22 = .ok (.iconst 0, 1) := by decide +kernel
theorem dX5_change_23 : decode cX5_change 23 = .ok (.bipush 59, 2) := by decide +kernel
theorem dX5_change_25 : decode cX5_change 25 = .ok (.invokestatic 60, 3) := by decide +kernel
theorem dX5_change_28 : decode cX5_change 28 = .ok (.ifCond .eq 7, 3) := by decide +kernel
theorem dX5_change_31 : decode cX5_change 31 = .ok (.iconst 0, 1) := by decide +kernel
theorem dX5_change_32 : decode cX5_change 32 = .ok (.goto 4, 3) := by decide +kernel
theorem dX5_change_35 : decode cX5_change 35 = .ok (.iconst 2, 1) := by decide +kernel
theorem dX5_change_36 : decode cX5_change 36 = .ok (.putfield 53, 3) := by decide +kernel
theorem dX5_change_39 : decode cX5_change 39 = .ok (.aload_n 0, 1) := by decide +kernel
theorem dX5_change_40 : decode cX5_change 40 = .ok (.getfield 53, 3) := by decide +kernel
theorem dX5_change_43 : decode cX5_change 43 = .ok (.ifCond .le 5, 3) := by decide +kernel
theorem dX5_change_46 : decode cX5_change 46 = .ok (.iconst 0, 1) := by decide +kernel
theorem dX5_change_47 : decode cX5_change 47 = .ok (.ireturn, 1) := by decide +kernel
theorem dX5_change_48 : decode cX5_change 48 = .ok (.aload_n 0, 1) := by decide +kernel
theorem dX5_change_49 : decode cX5_change 49 = .ok (.getfield 28, 3) := by decide +kernel
theorem dX5_change_52 : decode cX5_change 52 = .ok (.iload_n 1, 1) := by decide +kernel
theorem dX5_change_53 : decode cX5_change 53 = .ok (.iload_n 2, 1) := by decide +kernel
theorem dX5_change_54 : decode cX5_change 54 = .ok (.iastore, 1) := by decide +kernel
theorem dX5_change_55 : decode cX5_change 55 = .ok (.aload_n 0, 1) := by decide +kernel
theorem dX5_change_56 : decode cX5_change 56 = .ok (.getfield 31, 3) := by decide +kernel
theorem dX5_change_59 : decode cX5_change 59 = .ok (.iload_n 1, 1) := by decide +kernel
theorem dX5_change_60 : decode cX5_change 60 = .ok (.iload_n 3, 1) := by decide +kernel
theorem dX5_change_61 : decode cX5_change 61 = .ok (.iastore, 1) := by decide +kernel
theorem dX5_change_62 : decode cX5_change 62 = .ok (.aload_n 0, 1) := by decide +kernel
theorem dX5_change_63 : decode cX5_change 63 = .ok (.iload_n 1, 1) := by decide +kernel
theorem dX5_change_64 : decode cX5_change 64 = .ok (.invokevirtual 97, 3) := by decide +kernel
theorem dX5_change_67 : decode cX5_change 67 = .ok (.ireturn, 1) := by decide +kernel
theorem dX5_fail_0 : decode cX5_fail 0 = .ok (.aload_n 0, 1) := by decide +kernel
theorem dX5_fail_1 : decode cX5_fail 1 = .ok (.aload_n 0, 1) := by decide +kernel
theorem dX5_fail_2 : decode cX5_fail 2 = .ok (.iload_n 1, 1) := by decide +kernel
theorem dX5_fail_3 : decode cX5_fail 3 = .ok (.invokevirtual 100, 3) := by decide +kernel
theorem dX5_fail_6 : decode cX5_fail 6 = .ok (.ifCond .ne 7, 3) := by decide +kernel
theorem dX5_fail_9 : decode cX5_fail 9 = .ok (.iconst 1, 1) := by decide +kernel
theorem dX5_fail_10 : decode cX5_fail 10 = .ok (.goto 18, 3) := by decide +kernel
theorem dX5_fail_13 : decode cX5_fail 13 = .ok (.aload_n 0, 1) := by decide +kernel
theorem dX5_fail_14 : decode cX5_fail 14 = .ok (.getfield 40, 3) := by decide +kernel
theorem dX5_fail_17 : decode cX5_fail 17 = .ok (.iload_n 1, 1) := by decide +kernel
theorem dX5_fail_18 : decode cX5_fail 18 = .ok (.baload, 1) := by decide +kernel
theorem dX5_fail_19 : decode cX5_fail 19 = .ok (.iload_n 2, 1) := by decide +kernel
theorem dX5_fail_20 : decode cX5_fail 20 = .ok (.if_icmp .ne 7, 3) := by decide +kernel
theorem dX5_fail_23 : decode cX5_fail 23 = .ok (.iconst 2, 1) := by decide +kernel
theorem dX5_fail_24 : decode cX5_fail 24 = .ok (.goto 4, 3) := by decide +kernel
theorem dX5_fail_27 : decode cX5_fail 27 = .ok (.iconst 0, 1) := by decide +kernel
theorem dX5_fail_28 : decode cX5_fail 28 = .ok (.putfield 53, 3) := by decide +kernel
theorem dX5_fail_31 : decode cX5_fail 31 = .ok (.aload_n 0, 1) := by decide +kernel
theorem dX5_fail_32 : decode cX5_fail 32 = .ok (.getfield 53, 3) := by decide +kernel
theorem dX5_fail_35 : decode cX5_fail 35 = .ok (.ifCond .le 5, 3) := by decide +kernel
theorem dX5_fail_38 : decode cX5_fail 38 = .ok (.iconst 0, 1) := by decide +kernel
theorem dX5_fail_39 : decode cX5_fail 39 = .ok (.ireturn, 1) := by decide +kernel
theorem dX5_fail_40 : decode cX5_fail 40 = .ok (.aload_n 0, 1) := by decide +kernel
theorem dX5_fail_41 : decode cX5_fail 41 = .ok (.getfield 40, 3) := by decide +kernel
theorem dX5_fail_44 : decode cX5_fail 44 = .ok (.iload_n 1, 1) := by decide +kernel
theorem dX5_fail_45 : decode cX5_fail 45 = .ok (.iload_n 2, 1) := by decide +kernel
theorem dX5_fail_46 : decode cX5_fail 46 = .ok (.bastore, 1) := by decide +kernel
theorem dX5_fail_47 : decode cX5_fail 47 = .ok (.aload_n 0, 1) := by decide +kernel
theorem dX5_fail_48 : decode cX5_fail 48 = .ok (.iload_n 1, 1) := by decide +kernel
theorem dX5_fail_49 : decode cX5_fail 49 = .ok (.invokevirtual 97, 3) := by decide +kernel
theorem dX5_fail_52 : decode cX5_fail 52 = .ok (.ireturn, 1) := by decide +kernel
theorem dX5_isOn_0 : decode cX5_isOn 0 = .ok (.aload_n 0, 1) := by decide +kernel
theorem dX5_isOn_1 : decode cX5_isOn 1 = .ok (.getfield 40, 3) := by decide +kernel
theorem dX5_isOn_4 : decode cX5_isOn 4 = .ok (.iload_n 1, 1) := by decide +kernel
theorem dX5_isOn_5 : decode cX5_isOn 5 = .ok (.baload, 1) := by decide +kernel
theorem dX5_isOn_6 : decode cX5_isOn 6 = .ok (.ifCond .ne 28, 3) := by decide +kernel
theorem dX5_isOn_9 : decode cX5_isOn 9 = .ok (.aload_n 0, 1) := by decide +kernel
theorem dX5_isOn_10 : decode cX5_isOn 10 = .ok (.aload_n 0, 1) := by decide +kernel
theorem dX5_isOn_11 : decode cX5_isOn 11 = .ok (.getfield 28, 3) := by decide +kernel
theorem dX5_isOn_14 : decode cX5_isOn 14 = .ok (.iload_n 1, 1) := by decide +kernel
theorem dX5_isOn_15 : decode cX5_isOn 15 = .ok (.iaload, 1) := by decide +kernel
theorem dX5_isOn_16 : decode cX5_isOn 16 = .ok (.iload_n 2, 1) := by decide +kernel
theorem dX5_isOn_17 : decode cX5_isOn 17 = .ok (.aload_n 0, 1) := by decide +kernel
theorem dX5_isOn_18 : decode cX5_isOn 18 = .ok (.getfield 31, 3) := by decide +kernel
theorem dX5_isOn_21 : decode cX5_isOn 21 = .ok (.iload_n 1, 1) := by decide +kernel
theorem dX5_isOn_22 : decode cX5_isOn 22 = .ok (.iaload, 1) := by decide +kernel
theorem dX5_isOn_23 : decode cX5_isOn 23 = .ok (.iadd, 1) := by decide +kernel
theorem dX5_isOn_24 : decode cX5_isOn 24 = .ok (.invokevirtual 77, 3) := by decide +kernel
theorem dX5_isOn_27 : decode cX5_isOn 27 = .ok (.ifCond .eq 7, 3) := by decide +kernel
theorem dX5_isOn_30 : decode cX5_isOn 30 = .ok (.iconst 1, 1) := by decide +kernel
theorem dX5_isOn_31 : decode cX5_isOn 31 = .ok (.goto 4, 3) := by decide +kernel
theorem dX5_isOn_34 : decode cX5_isOn 34 = .ok (.iconst 0, 1) := by decide +kernel
theorem dX5_isOn_35 : decode cX5_isOn 35 = .ok (.ireturn, 1) := by decide +kernel
theorem dX5_shines_0 : decode cX5_shines 0 = .ok (.aload_n 0, 1) := by decide +kernel
theorem dX5_shines_1 : decode cX5_shines 1 = .ok (.aload_n 0, 1) := by decide +kernel
theorem dX5_shines_2 : decode cX5_shines 2 = .ok (.iload_n 1, 1) := by decide +kernel
theorem dX5_shines_3 : decode cX5_shines 3 = .ok (.invokevirtual 100, 3) := by decide +kernel
theorem dX5_shines_6 : decode cX5_shines 6 = .ok (.ifCond .ne 7, 3) := by decide +kernel
theorem dX5_shines_9 : decode cX5_shines 9 = .ok (.iconst 1, 1) := by decide +kernel
theorem dX5_shines_10 : decode cX5_shines 10 = .ok (.goto 18, 3) := by decide +kernel
theorem dX5_shines_13 : decode cX5_shines 13 = .ok (.iload_n 2, 1) := by decide +kernel
theorem dX5_shines_14 : decode cX5_shines 14 = .ok (.iconst 0, 1) := by decide +kernel
theorem dX5_shines_15 : decode cX5_shines 15 = .ok (.ldc 103, 2) := by decide +kernel
theorem dX5_shines_17 : decode cX5_shines 17 = .ok (.invokestatic 60, 3) := by decide +kernel
theorem dX5_shines_20 : decode cX5_shines 20 = .ok (.ifCond .eq 7, 3) := by decide +kernel
theorem dX5_shines_23 : decode cX5_shines 23 = .ok (.iconst 0, 1) := by decide +kernel
theorem dX5_shines_24 : decode cX5_shines 24 = .ok (.goto 4, 3) := by decide +kernel
theorem dX5_shines_27 : decode cX5_shines 27 = .ok (.iconst 2, 1) := by decide +kernel
theorem dX5_shines_28 : decode cX5_shines 28 = .ok (.putfield 53, 3) := by decide +kernel
theorem dX5_shines_31 : decode cX5_shines 31 = .ok (.aload_n 0, 1) := by decide +kernel
theorem dX5_shines_32 : decode cX5_shines 32 = .ok (.getfield 53, 3) := by decide +kernel
theorem dX5_shines_35 : decode cX5_shines 35 = .ok (.ifCond .ne 16, 3) := by decide +kernel
theorem dX5_shines_38 : decode cX5_shines 38 = .ok (.aload_n 0, 1) := by decide +kernel
theorem dX5_shines_39 : decode cX5_shines 39 = .ok (.iload_n 1, 1) := by decide +kernel
theorem dX5_shines_40 : decode cX5_shines 40 = .ok (.iload_n 2, 1) := by decide +kernel
theorem dX5_shines_41 : decode cX5_shines 41 = .ok (.invokevirtual 104, 3) := by decide +kernel
theorem dX5_shines_44 : decode cX5_shines 44 = .ok (.ifCond .eq 7, 3) := by decide +kernel
theorem dX5_shines_47 : decode cX5_shines 47 = .ok (.iconst 1, 1) := by decide +kernel
theorem dX5_shines_48 : decode cX5_shines 48 = .ok (.goto 4, 3) := by decide +kernel
theorem dX5_shines_51 : decode cX5_shines 51 = .ok (.iconst 0, 1) := by decide +kernel
theorem dX5_shines_52 : decode cX5_shines 52 = .ok (.ireturn, 1) := by decide +kernel
theorem dX5_sectorOf_0 : decode cX5_sectorOf 0 = .ok (.iload_n 2, 1) := by decide +kernel
theorem dX5_sectorOf_1 : decode cX5_sectorOf 1 = .ok (.aload_n 0, 1) := by decide +kernel
theorem dX5_sectorOf_2 : decode cX5_sectorOf 2 = .ok (.getfield 22, 3) := by decide +kernel
theorem dX5_sectorOf_5 : decode cX5_sectorOf 5 = .ok (.iload_n 1, 1) := by decide +kernel
theorem dX5_sectorOf_6 : decode cX5_sectorOf 6 = .ok (.iaload, 1) := by decide +kernel
theorem dX5_sectorOf_7 : decode cX5_sectorOf 7 = .ok (.isub, 1) := by decide +kernel
theorem dX5_sectorOf_8 : decode cX5_sectorOf 8 = .ok (.istore 4, 2) := by decide +kernel
theorem dX5_sectorOf_10 : decode cX5_sectorOf 10 = .ok (.iload_n 3, 1) := by decide +kernel
theorem dX5_sectorOf_11 : decode cX5_sectorOf 11 = .ok (.aload_n 0, 1) := by decide +kernel
theorem dX5_sectorOf_12 : decode cX5_sectorOf 12 = .ok (.getfield 25, 3) := by decide +kernel
theorem dX5_sectorOf_15 : decode cX5_sectorOf 15 = .ok (.iload_n 1, 1) := by decide +kernel
theorem dX5_sectorOf_16 : decode cX5_sectorOf 16 = .ok (.iaload, 1) := by decide +kernel
theorem dX5_sectorOf_17 : decode cX5_sectorOf 17 = .ok (.isub, 1) := by decide +kernel
theorem dX5_sectorOf_18 : decode cX5_sectorOf 18 = .ok (.istore 5, 2) := by decide +kernel
theorem dX5_sectorOf_20 : decode cX5_sectorOf 20 = .ok (.iload 4, 2) := by decide +kernel
theorem dX5_sectorOf_22 : decode cX5_sectorOf 22 = .ok (.ifCond .ne 10, 3) := by decide +kernel
theorem dX5_sectorOf_25 : decode cX5_sectorOf 25 = .ok (.iload 5, 2) := by decide +kernel
theorem dX5_sectorOf_27 : decode cX5_sectorOf 27 = .ok (.ifCond .ne 5, 3) := by decide +kernel
theorem dX5_sectorOf_30 : decode cX5_sectorOf 30 = .ok (.iconst (-1), 1) := by decide +kernel
theorem dX5_sectorOf_31 : decode cX5_sectorOf 31 = .ok (.ireturn, 1) := by decide +kernel
theorem dX5_sectorOf_32 : decode cX5_sectorOf 32 = .ok (.iload 4, 2) := by decide +kernel
theorem dX5_sectorOf_34 : decode cX5_sectorOf 34 = .ok (.ifCond .le 12, 3) := by decide +kernel
theorem dX5_sectorOf_37 : decode cX5_sectorOf 37 = .ok (.iload 5, 2) := by decide +kernel
theorem dX5_sectorOf_39 : decode cX5_sectorOf 39 = .ok (.ifCond .lt 7, 3) := by decide +kernel
theorem dX5_sectorOf_42 : decode cX5_sectorOf 42 = .ok (.iconst 0, 1) := by decide +kernel
theorem dX5_sectorOf_43 : decode cX5_sectorOf 43 = .ok (.goto 32, 3) := by decide +kernel
theorem dX5_sectorOf_46 : decode cX5_sectorOf 46 = .ok (.iload 4, 2) := by decide +kernel
theorem dX5_sectorOf_48 : decode cX5_sectorOf 48 = .ok (.ifCond .gt 12, 3) := by decide +kernel
theorem dX5_sectorOf_51 : decode cX5_sectorOf 51 = .ok (.iload 5, 2) := by decide +kernel
theorem dX5_sectorOf_53 : decode cX5_sectorOf 53 = .ok (.ifCond .le 7, 3) := by decide +kernel
theorem dX5_sectorOf_56 : decode cX5_sectorOf 56 = .ok (.iconst 1, 1) := by decide +kernel
theorem dX5_sectorOf_57 : decode cX5_sectorOf 57 = .ok (.goto 18, 3) := by decide +kernel
theorem dX5_sectorOf_60 : decode cX5_sectorOf 60 = .ok (.iload 4, 2) := by decide +kernel
theorem dX5_sectorOf_62 : decode cX5_sectorOf 62 = .ok (.ifCond .ge 12, 3) := by decide +kernel
theorem dX5_sectorOf_65 : decode cX5_sectorOf 65 = .ok (.iload 5, 2) := by decide +kernel
theorem dX5_sectorOf_67 : decode cX5_sectorOf 67 = .ok (.ifCond .gt 7, 3) := by decide +kernel
theorem dX5_sectorOf_70 : decode cX5_sectorOf 70 = .ok (.iconst 2, 1) := by decide +kernel
theorem dX5_sectorOf_71 : decode cX5_sectorOf 71 = .ok (.goto 4, 3) := by decide +kernel
theorem dX5_sectorOf_74 : decode cX5_sectorOf 74 = .ok (.iconst 3, 1) := by decide +kernel
theorem dX5_sectorOf_75 : decode cX5_sectorOf 75 = .ok (.istore 6, 2) := by decide +kernel
theorem dX5_sectorOf_77 : decode cX5_sectorOf 77 = .ok (.iload 4, 2) := by decide +kernel
theorem dX5_sectorOf_79 : decode cX5_sectorOf 79 = .ok (.ifCond .ge 9, 3) := by decide +kernel
theorem dX5_sectorOf_82 : decode cX5_sectorOf 82 = .ok (.iload 4, 2) := by decide +kernel
theorem dX5_sectorOf_84 : decode cX5_sectorOf 84 = .ok (.ineg, 1) := by decide +kernel
theorem dX5_sectorOf_85 : decode cX5_sectorOf 85 = .ok (.goto 5, 3) := by decide +kernel
theorem dX5_sectorOf_88 : decode cX5_sectorOf 88 = .ok (.iload 4, 2) := by decide +kernel
theorem dX5_sectorOf_90 : decode cX5_sectorOf 90 = .ok (.istore 7, 2) := by decide +kernel
theorem dX5_sectorOf_92 : decode cX5_sectorOf 92 = .ok (.iload 5, 2) := by decide +kernel
theorem dX5_sectorOf_94 : decode cX5_sectorOf 94 = .ok (.ifCond .ge 9, 3) := by decide +kernel
theorem dX5_sectorOf_97 : decode cX5_sectorOf 97 = .ok (.iload 5, 2) := by decide +kernel
theorem dX5_sectorOf_99 : decode cX5_sectorOf 99 = .ok (.ineg, 1) := by decide +kernel
theorem dX5_sectorOf_100 : decode cX5_sectorOf 100 = .ok (.goto 5, 3) := by decide +kernel
theorem dX5_sectorOf_103 : decode cX5_sectorOf 103 = .ok (.iload 5, 2) := by decide +kernel
theorem dX5_sectorOf_105 : decode cX5_sectorOf 105 = .ok (.istore 8, 2) := by decide +kernel
theorem dX5_sectorOf_107 : decode cX5_sectorOf 107 = .ok (.iload 6, 2) := by decide +kernel
theorem dX5_sectorOf_109 : decode cX5_sectorOf 109 = .ok (.iconst 2, 1) := by decide +kernel
theorem dX5_sectorOf_110 : decode cX5_sectorOf 110 = .ok (.irem, 1) := by decide +kernel
theorem dX5_sectorOf_111 : decode cX5_sectorOf 111 = .ok (.ifCond .ne 18, 3) := by decide +kernel
theorem dX5_sectorOf_114 : decode cX5_sectorOf 114 = .ok (.iload 8, 2) := by decide +kernel
theorem dX5_sectorOf_116 : decode cX5_sectorOf 116 = .ok (.iload 7, 2) := by decide +kernel
theorem dX5_sectorOf_118 : decode cX5_sectorOf 118 = .ok (.if_icmp .lt 7, 3) := by decide +kernel
theorem dX5_sectorOf_121 : decode cX5_sectorOf 121 = .ok (.iconst 1, 1) := by decide +kernel
theorem dX5_sectorOf_122 : decode cX5_sectorOf 122 = .ok (.goto 19, 3) := by decide +kernel
theorem dX5_sectorOf_125 : decode cX5_sectorOf 125 = .ok (.iconst 0, 1) := by decide +kernel
theorem dX5_sectorOf_126 : decode cX5_sectorOf 126 = .ok (.goto 15, 3) := by decide +kernel
theorem dX5_sectorOf_129 : decode cX5_sectorOf 129 = .ok (.iload 7, 2) := by decide +kernel
theorem dX5_sectorOf_131 : decode cX5_sectorOf 131 = .ok (.iload 8, 2) := by decide +kernel
theorem dX5_sectorOf_133 : decode cX5_sectorOf 133 = .ok (.if_icmp .lt 7, 3) := by decide +kernel
theorem dX5_sectorOf_136 : decode cX5_sectorOf 136 = .ok (.iconst 1, 1) := by decide +kernel
theorem dX5_sectorOf_137 : decode cX5_sectorOf 137 = .ok (.goto 4, 3) := by decide +kernel
theorem dX5_sectorOf_140 : decode cX5_sectorOf 140 = .ok (.iconst 0, 1) := by decide +kernel
theorem dX5_sectorOf_141 : decode cX5_sectorOf 141 = .ok (.istore 9, 2) := by decide +kernel
theorem dX5_sectorOf_143 : decode cX5_sectorOf 143 = .ok (.iconst 2, 1) := by decide +kernel
theorem dX5_sectorOf_144 : decode cX5_sectorOf 144 = .ok (.iload 6, 2) := by decide +kernel
theorem dX5_sectorOf_146 : decode cX5_sectorOf 146 = .ok (.imul, 1) := by decide +kernel
theorem dX5_sectorOf_147 : decode cX5_sectorOf 147 = .ok (.iload 9, 2) := by decide +kernel
theorem dX5_sectorOf_149 : decode cX5_sectorOf 149 = .ok (.ifCond .eq 7, 3) := by decide +kernel
theorem dX5_sectorOf_152 : decode cX5_sectorOf 152 = .ok (.iconst 1, 1) := by decide +kernel
theorem dX5_sectorOf_153 : decode cX5_sectorOf 153 = .ok (.goto 4, 3) := by decide +kernel
theorem dX5_sectorOf_156 : decode cX5_sectorOf 156 = .ok (.iconst 0, 1) := by decide +kernel
theorem dX5_sectorOf_157 : decode cX5_sectorOf 157 = .ok (.iadd, 1) := by decide +kernel
theorem dX5_sectorOf_158 : decode cX5_sectorOf 158 = .ok (.ireturn, 1) := by decide +kernel
theorem dX5_sees_0 : decode cX5_sees 0 = .ok (.iload_n 2, 1) := by decide +kernel
theorem dX5_sees_1 : decode cX5_sees 1 = .ok (.aload_n 0, 1) := by decide +kernel
theorem dX5_sees_2 : decode cX5_sees 2 = .ok (.getfield 22, 3) := by decide +kernel
theorem dX5_sees_5 : decode cX5_sees 5 = .ok (.iload_n 1, 1) := by decide +kernel
theorem dX5_sees_6 : decode cX5_sees 6 = .ok (.iaload, 1) := by decide +kernel
theorem dX5_sees_7 : decode cX5_sees 7 = .ok (.isub, 1) := by decide +kernel
theorem dX5_sees_8 : decode cX5_sees 8 = .ok (.istore 4, 2) := by decide +kernel
theorem dX5_sees_10 : decode cX5_sees 10 = .ok (.iload_n 3, 1) := by decide +kernel
theorem dX5_sees_11 : decode cX5_sees 11 = .ok (.aload_n 0, 1) := by decide +kernel
theorem dX5_sees_12 : decode cX5_sees 12 = .ok (.getfield 25, 3) := by decide +kernel
theorem dX5_sees_15 : decode cX5_sees 15 = .ok (.iload_n 1, 1) := by decide +kernel
theorem dX5_sees_16 : decode cX5_sees 16 = .ok (.iaload, 1) := by decide +kernel
theorem dX5_sees_17 : decode cX5_sees 17 = .ok (.isub, 1) := by decide +kernel
theorem dX5_sees_18 : decode cX5_sees 18 = .ok (.istore 5, 2) := by decide +kernel
theorem dX5_sees_20 : decode cX5_sees 20 = .ok (.aload_n 0, 1) := by decide +kernel
theorem dX5_sees_21 : decode cX5_sees 21 = .ok (.iload_n 1, 1) := by decide +kernel
theorem dX5_sees_22 : decode cX5_sees 22 = .ok (.iload_n 2, 1) := by decide +kernel
theorem dX5_sees_23 : decode cX5_sees 23 = .ok (.iload_n 3, 1) := by decide +kernel
theorem dX5_sees_24 : decode cX5_sees 24 = .ok (.invokevirtual 107, 3) := by decide +kernel
theorem dX5_sees_27 : decode cX5_sees 27 = .ok (.istore 6, 2) := by decide +kernel
theorem dX5_sees_29 : decode cX5_sees 29 = .ok (.iload 4, 2) := by decide +kernel
theorem dX5_sees_31 : decode cX5_sees 31 = .ok (.aload_n 0, 1) := by decide +kernel
theorem dX5_sees_32 : decode cX5_sees 32 = .ok (.getfield 34, 3) := by decide +kernel
theorem dX5_sees_35 : decode cX5_sees 35 = .ok (.iload_n 1, 1) := by decide +kernel
theorem dX5_sees_36 : decode cX5_sees 36 = .ok (.iaload, 1) := by decide +kernel
end
section
theorem dX5_sees_37 : decode cX5_sees 37 = .ok (.ineg, 1) := by decide +kernel
theorem dX5_sees_38 : decode cX5_sees 38 = .ok (.aload_n 0, 1) := by decide +kernel
theorem dX5_sees_39 : decode cX5_sees 39 = .ok (.getfield 34, 3) := by decide +kernel
theorem dX5_sees_42 : decode cX5_sees 42 = .ok (.iload_n 1, 1) := by decide +kernel
theorem dX5_sees_43 : decode cX5_sees 43 = .ok (.iaload, 1) := by decide +kernel
theorem dX5_sees_44 : decode cX5_sees 44 = .ok (.invokestatic 60, 3) := by decide +kernel
theorem dX5_sees_47 : decode cX5_sees 47 = .ok (.ifCond .eq 28, 3) := by decide +kernel
theorem dX5_sees_50 : decode cX5_sees 50 = .ok (.iload 5, 2) := by decide +kernel
theorem dX5_sees_52 : decode cX5_sees 52 = .ok (.aload_n 0, 1) := by decide +kernel
theorem dX5_sees_53 : decode cX5_sees 53 = .ok (.getfield 34, 3) := by decide +kernel
theorem dX5_sees_56 : decode cX5_sees 56 = .ok (.iload_n 1, 1) := by decide +kernel
theorem dX5_sees_57 : decode cX5_sees 57 = .ok (.iaload, 1) := by decide +kernel
theorem dX5_sees_58 : decode cX5_sees 58 = .ok (.ineg, 1) := by decide +kernel
theorem dX5_sees_59 : decode cX5_sees 59 = .ok (.aload_n 0, 1) := by decide +kernel
theorem dX5_sees_60 : decode cX5_sees 60 = .ok (.getfield 34, 3) := by decide +kernel
theorem dX5_sees_63 : decode cX5_sees 63 = .ok (.iload_n 1, 1) := by decide +kernel
theorem dX5_sees_64 : decode cX5_sees 64 = .ok (.iaload, 1) := by decide +kernel
theorem dX5_sees_65 : decode cX5_sees 65 = .ok (.invokestatic 60, 3) := by decide +kernel
theorem dX5_sees_68 : decode cX5_sees 68 = .ok (.ifCond .eq 7, 3) := by decide +kernel
theorem dX5_sees_71 : decode cX5_sees 71 = .ok (.iconst 1, 1) := by decide +kernel
theorem dX5_sees_72 : decode cX5_sees 72 = .ok (.goto 4, 3) := by decide +kernel
theorem dX5_sees_75 : decode cX5_sees 75 = .ok (.iconst 0, 1) := by decide +kernel
theorem dX5_sees_76 : decode cX5_sees 76 = .ok (.istore 7, 2) := by decide +kernel
theorem dX5_sees_78 : decode cX5_sees 78 = .ok (.iload 7, 2) := by decide +kernel
theorem dX5_sees_80 : decode cX5_sees 80 = .ok (.ifCond .eq 27, 3) := by decide +kernel
theorem dX5_sees_83 : decode cX5_sees 83 = .ok (.iload 6, 2) := by decide +kernel
theorem dX5_sees_85 : decode cX5_sees 85 = .ok (.ifCond .lt 18, 3) := by decide +kernel
theorem dX5_sees_88 : decode cX5_sees 88 = .ok (.aload_n 0, 1) := by decide +kernel
theorem dX5_sees_89 : decode cX5_sees 89 = .ok (.getfield 37, 3) := by decide +kernel
theorem dX5_sees_92 : decode cX5_sees 92 = .ok (.iload_n 1, 1) := by decide +kernel
theorem dX5_sees_93 : decode cX5_sees 93 = .ok (.iaload, 1) := by decide +kernel
theorem dX5_sees_94 : decode cX5_sees 94 = .ok (.iload 6, 2) := by decide +kernel
theorem dX5_sees_96 : decode cX5_sees 96 = .ok (.ishr, 1) := by decide +kernel
theorem dX5_sees_97 : decode cX5_sees 97 = .ok (.iconst 1, 1) := by decide +kernel
theorem dX5_sees_98 : decode cX5_sees 98 = .ok (.iand, 1) := by decide +kernel
theorem dX5_sees_99 : decode cX5_sees 99 = .ok (.iconst 1, 1) := by decide +kernel
theorem dX5_sees_100 : decode cX5_sees 100 = .ok (.if_icmp .ne 7, 3) := by decide +kernel
theorem dX5_sees_103 : decode cX5_sees 103 = .ok (.iconst 1, 1) := by decide +kernel
theorem dX5_sees_104 : decode cX5_sees 104 = .ok (.goto 4, 3) := by decide +kernel
theorem dX5_sees_107 : decode cX5_sees 107 = .ok (.iconst 0, 1) := by decide +kernel
theorem dX5_sees_108 : decode cX5_sees 108 = .ok (.ireturn, 1) := by decide +kernel
theorem dX5_asks_0 : decode cX5_asks 0 = .ok (.aload_n 0, 1) := by decide +kernel
theorem dX5_asks_1 : decode cX5_asks 1 = .ok (.aload_n 0, 1) := by decide +kernel
theorem dX5_asks_2 : decode cX5_asks 2 = .ok (.iload_n 1, 1) := by decide +kernel
theorem dX5_asks_3 : decode cX5_asks 3 = .ok (.invokevirtual 100, 3) := by decide +kernel
theorem dX5_asks_6 : decode cX5_asks 6 = .ok (.ifCond .ne 7, 3) := by decide +kernel
theorem dX5_asks_9 : decode cX5_asks 9 = .ok (.iconst 1, 1) := by decide +kernel
theorem dX5_asks_10 : decode cX5_asks 10 = .ok (.goto 16, 3) := by decide +kernel
theorem dX5_asks_13 : decode cX5_asks 13 = .ok (.iload_n 2, 1) := by decide +kernel
theorem dX5_asks_14 : decode cX5_asks 14 = .ok (.iload_n 3, 1) := by decide +kernel
theorem dX5_asks_15 : decode cX5_asks 15 = .ok (.invokestatic 94, 3) := by decide +kernel
theorem dX5_asks_18 : decode cX5_asks 18 = .ok (.ifCond .eq 7, 3) := by decide +kernel
theorem dX5_asks_21 : decode cX5_asks 21 = .ok (.iconst 0, 1) := by decide +kernel
theorem dX5_asks_22 : decode cX5_asks 22 = .ok (.goto 4, 3) := by decide +kernel
theorem dX5_asks_25 : decode cX5_asks 25 = .ok (.iconst 2, 1) := by decide +kernel
theorem dX5_asks_26 : decode cX5_asks 26 = .ok (.putfield 53, 3) := by decide +kernel
theorem dX5_asks_29 : decode cX5_asks 29 = .ok (.aload_n 0, 1) := by decide +kernel
theorem dX5_asks_30 : decode cX5_asks 30 = .ok (.getfield 53, 3) := by decide +kernel
theorem dX5_asks_33 : decode cX5_asks 33 = .ok (.ifCond .ne 7, 3) := by decide +kernel
theorem dX5_asks_36 : decode cX5_asks 36 = .ok (.iconst 1, 1) := by decide +kernel
theorem dX5_asks_37 : decode cX5_asks 37 = .ok (.goto 4, 3) := by decide +kernel
theorem dX5_asks_40 : decode cX5_asks 40 = .ok (.iconst 0, 1) := by decide +kernel
theorem dX5_asks_41 : decode cX5_asks 41 = .ok (.ireturn, 1) := by decide +kernel
theorem dX5_sector_0 : decode cX5_sector 0 = .ok (.aload_n 0, 1) := by decide +kernel
theorem dX5_sector_1 : decode cX5_sector 1 = .ok (.iload_n 1, 1) := by decide +kernel
theorem dX5_sector_2 : decode cX5_sector 2 = .ok (.iload_n 2, 1) := by decide +kernel
theorem dX5_sector_3 : decode cX5_sector 3 = .ok (.iload_n 3, 1) := by decide +kernel
theorem dX5_sector_4 : decode cX5_sector 4 = .ok (.invokevirtual 111, 3) := by decide +kernel
theorem dX5_sector_7 : decode cX5_sector 7 = .ok (.ifCond .eq 13, 3) := by decide +kernel
theorem dX5_sector_10 : decode cX5_sector 10 = .ok (.aload_n 0, 1) := by decide +kernel
theorem dX5_sector_11 : decode cX5_sector 11 = .ok (.iload_n 1, 1) := by decide +kernel
theorem dX5_sector_12 : decode cX5_sector 12 = .ok (.iload_n 2, 1) := by decide +kernel
theorem dX5_sector_13 : decode cX5_sector 13 = .ok (.iload_n 3, 1) := by decide +kernel
theorem dX5_sector_14 : decode cX5_sector 14 = .ok (.invokevirtual 107, 3) := by decide +kernel
theorem dX5_sector_17 : decode cX5_sector 17 = .ok (.goto 4, 3) := by decide +kernel
theorem dX5_sector_20 : decode cX5_sector 20 = .ok (.iconst 0, 1) := by decide +kernel
theorem dX5_sector_21 : decode cX5_sector 21 = .ok (.ireturn, 1) := by decide +kernel
theorem dX5_isSeen_0 : decode cX5_isSeen 0 = .ok (.aload_n 0, 1) := by decide +kernel
theorem dX5_isSeen_1 : decode cX5_isSeen 1 = .ok (.iload_n 1, 1) := by decide +kernel
theorem dX5_isSeen_2 : decode cX5_isSeen 2 = .ok (.iload_n 2, 1) := by decide +kernel
theorem dX5_isSeen_3 : decode cX5_isSeen 3 = .ok (.iload_n 3, 1) := by decide +kernel
theorem dX5_isSeen_4 : decode cX5_isSeen 4 = .ok (.invokevirtual 111, 3) := by decide +kernel
theorem dX5_isSeen_7 : decode cX5_isSeen 7 = .ok (.ifCond .eq 17, 3) := by decide +kernel
theorem dX5_isSeen_10 : decode cX5_isSeen 10 = .ok (.aload_n 0, 1) := by decide +kernel
theorem dX5_isSeen_11 : decode cX5_isSeen 11 = .ok (.iload_n 1, 1) := by decide +kernel
theorem dX5_isSeen_12 : decode cX5_isSeen 12 = .ok (.iload_n 2, 1) := by decide +kernel
theorem dX5_isSeen_13 : decode cX5_isSeen 13 = .ok (.iload_n 3, 1) := by decide +kernel
theorem dX5_isSeen_14 : decode cX5_isSeen 14 = .ok (.invokevirtual 114, 3) := by decide +kernel
theorem dX5_isSeen_17 : decode cX5_isSeen 17 = .ok (.ifCond .eq 7, 3) := by decide +kernel
theorem dX5_isSeen_20 : decode cX5_isSeen 20 = .ok (.iconst 1, 1) := by decide +kernel
theorem dX5_isSeen_21 : decode cX5_isSeen 21 = .ok (.goto 4, 3) := by decide +kernel
theorem dX5_isSeen_24 : decode cX5_isSeen 24 = .ok (.iconst 0, 1) := by decide +kernel
theorem dX5_isSeen_25 : decode cX5_isSeen 25 = .ok (.ireturn, 1) := by decide +kernel
theorem dX5_both_0 : decode cX5_both 0 = .ok (.iconst 0, 1) := by decide +kernel
theorem dX5_both_1 : decode cX5_both 1 = .ok (.istore_n 3, 1) := by decide +kernel
theorem dX5_both_2 : decode cX5_both 2 = .ok (.iconst 0, 1) := by decide +kernel
theorem dX5_both_3 : decode cX5_both 3 = .ok (.istore 4, 2) := by decide +kernel
theorem dX5_both_5 : decode cX5_both 5 = .ok (.iload 4, 2) := by decide +kernel
theorem dX5_both_7 : decode cX5_both 7 = .ok (.sipush 1024, 3) := by decide +kernel
theorem dX5_both_10 : decode cX5_both 10 = .ok (.if_icmp .ge 53, 3) := by decide +kernel
theorem dX5_both_13 : decode cX5_both 13 = .ok (.iload_n 3, 1) := by decide +kernel
theorem dX5_both_14 : decode cX5_both 14 = .ok (.aload_n 0, 1) := by decide +kernel
theorem dX5_both_15 : decode cX5_both 15 = .ok (.iload_n 1, 1) := by decide +kernel
theorem dX5_both_16 : decode cX5_both 16 = .ok (.iload 4, 2) := by decide +kernel
theorem dX5_both_18 : decode cX5_both 18 = .ok (.bipush 32, 2) := by decide +kernel
theorem dX5_both_20 : decode cX5_both 20 = .ok (.irem, 1) := by decide +kernel
theorem dX5_both_21 : decode cX5_both 21 = .ok (.iload 4, 2) := by decide +kernel
theorem dX5_both_23 : decode cX5_both 23 = .ok (.bipush 32, 2) := by decide +kernel
theorem dX5_both_25 : decode cX5_both 25 = .ok (.idiv, 1) := by decide +kernel
theorem dX5_both_26 : decode cX5_both 26 = .ok (.invokevirtual 114, 3) := by decide +kernel
theorem dX5_both_29 : decode cX5_both 29 = .ok (.ifCond .eq 25, 3) := by decide +kernel
theorem dX5_both_32 : decode cX5_both 32 = .ok (.aload_n 0, 1) := by decide +kernel
theorem dX5_both_33 : decode cX5_both 33 = .ok (.iload_n 2, 1) := by decide +kernel
theorem dX5_both_34 : decode cX5_both 34 = .ok (.iload 4, 2) := by decide +kernel
theorem dX5_both_36 : decode cX5_both 36 = .ok (.bipush 32, 2) := by decide +kernel
theorem dX5_both_38 : decode cX5_both 38 = .ok (.irem, 1) := by decide +kernel
theorem dX5_both_39 : decode cX5_both 39 = .ok (.iload 4, 2) := by decide +kernel
theorem dX5_both_41 : decode cX5_both 41 = .ok (.bipush 32, 2) := by decide +kernel
theorem dX5_both_43 : decode cX5_both 43 = .ok (.idiv, 1) := by decide +kernel
theorem dX5_both_44 : decode cX5_both 44 = .ok (.invokevirtual 114, 3) := by decide +kernel
theorem dX5_both_47 : decode cX5_both 47 = .ok (.ifCond .eq 7, 3) := by decide +kernel
theorem dX5_both_50 : decode cX5_both 50 = .ok (.iconst 1, 1) := by decide +kernel
theorem dX5_both_51 : decode cX5_both 51 = .ok (.goto 4, 3) := by decide +kernel
theorem dX5_both_54 : decode cX5_both 54 = .ok (.iconst 0, 1) := by decide +kernel
theorem dX5_both_55 : decode cX5_both 55 = .ok (.iadd, 1) := by decide +kernel
theorem dX5_both_56 : decode cX5_both 56 = .ok (.istore_n 3, 1) := by decide +kernel
theorem dX5_both_57 : decode cX5_both 57 = .ok (.iinc 4 1, 3) := by decide +kernel
theorem dX5_both_60 : decode cX5_both 60 = .ok (.goto (-55), 3) := by decide +kernel
theorem dX5_both_63 : decode cX5_both 63 = .ok (.iload_n 3, 1) := by decide +kernel
theorem dX5_both_64 : decode cX5_both 64 = .ok (.ireturn, 1) := by decide +kernel
theorem dX5_common_0 : decode cX5_common 0 = .ok (.aload_n 0, 1) := by decide +kernel
theorem dX5_common_1 : decode cX5_common 1 = .ok (.aload_n 0, 1) := by decide +kernel
theorem dX5_common_2 : decode cX5_common 2 = .ok (.iload_n 1, 1) := by decide +kernel
theorem dX5_common_3 : decode cX5_common 3 = .ok (.invokevirtual 100, 3) := by decide +kernel
theorem dX5_common_6 : decode cX5_common 6 = .ok (.ifCond .eq 15, 3) := by decide +kernel
theorem dX5_common_9 : decode cX5_common 9 = .ok (.aload_n 0, 1) := by decide +kernel
theorem dX5_common_10 : decode cX5_common 10 = .ok (.iload_n 2, 1) := by decide +kernel
theorem dX5_common_11 : decode cX5_common 11 = .ok (.invokevirtual 100, 3) := by decide +kernel
theorem dX5_common_14 : decode cX5_common 14 = .ok (.ifCond .eq 7, 3) := by decide +kernel
theorem dX5_common_17 : decode cX5_common 17 = .ok (.iconst 0, 1) := by decide +kernel
theorem dX5_common_18 : decode cX5_common 18 = .ok (.goto 4, 3) := by decide +kernel
theorem dX5_common_21 : decode cX5_common 21 = .ok (.iconst 1, 1) := by decide +kernel
theorem dX5_common_22 : decode cX5_common 22 = .ok (.putfield 53, 3) := by decide +kernel
theorem dX5_common_25 : decode cX5_common 25 = .ok (.aload_n 0, 1) := by decide +kernel
theorem dX5_common_26 : decode cX5_common 26 = .ok (.getfield 53, 3) := by decide +kernel
theorem dX5_common_29 : decode cX5_common 29 = .ok (.ifCond .le 7, 3) := by decide +kernel
theorem dX5_common_32 : decode cX5_common 32 = .ok (.iconst 0, 1) := by decide +kernel
theorem dX5_common_33 : decode cX5_common 33 = .ok (.goto 9, 3) := by decide +kernel
theorem dX5_common_36 : decode cX5_common 36 = .ok (.aload_n 0, 1) := by decide +kernel
theorem dX5_common_37 : decode cX5_common 37 = .ok (.iload_n 1, 1) := by decide +kernel
theorem dX5_common_38 : decode cX5_common 38 = .ok (.iload_n 2, 1) := by decide +kernel
theorem dX5_common_39 : decode cX5_common 39 = .ok (.invokevirtual 117, 3) := by decide +kernel
theorem dX5_common_42 : decode cX5_common 42 = .ok (.ireturn, 1) := by decide +kernel
theorem dX5_clashes_0 : decode cX5_clashes 0 = .ok (.aload_n 0, 1) := by decide +kernel
theorem dX5_clashes_1 : decode cX5_clashes 1 = .ok (.iconst 0, 1) := by decide +kernel
theorem dX5_clashes_2 : decode cX5_clashes 2 = .ok (.putfield 53, 3) := by decide +kernel
theorem dX5_clashes_5 : decode cX5_clashes 5 = .ok (.iconst 0, 1) := by decide +kernel
theorem dX5_clashes_6 : decode cX5_clashes 6 = .ok (.istore_n 1, 1) := by decide +kernel
theorem dX5_clashes_7 : decode cX5_clashes 7 = .ok (.iconst 0, 1) := by decide +kernel
theorem dX5_clashes_8 : decode cX5_clashes 8 = .ok (.istore_n 2, 1) := by decide +kernel
theorem dX5_clashes_9 : decode cX5_clashes 9 = .ok (.iload_n 2, 1) := by decide +kernel
theorem dX5_clashes_10 : decode cX5_clashes 10 = .ok (.aload_n 0, 1) := by decide +kernel
theorem dX5_clashes_11 : decode cX5_clashes 11 = .ok (.getfield 64, 3) := by decide +kernel
theorem dX5_clashes_14 : decode cX5_clashes 14 = .ok (.if_icmp .ge 58, 3) := by decide +kernel
theorem dX5_clashes_17 : decode cX5_clashes 17 = .ok (.iconst 0, 1) := by decide +kernel
theorem dX5_clashes_18 : decode cX5_clashes 18 = .ok (.istore_n 3, 1) := by decide +kernel
theorem dX5_clashes_19 : decode cX5_clashes 19 = .ok (.iload_n 3, 1) := by decide +kernel
theorem dX5_clashes_20 : decode cX5_clashes 20 = .ok (.iload_n 2, 1) := by decide +kernel
theorem dX5_clashes_21 : decode cX5_clashes 21 = .ok (.if_icmp .ge 45, 3) := by decide +kernel
theorem dX5_clashes_24 : decode cX5_clashes 24 = .ok (.iload_n 1, 1) := by decide +kernel
theorem dX5_clashes_25 : decode cX5_clashes 25 = .ok (.aload_n 0, 1) := by decide +kernel
theorem dX5_clashes_26 : decode cX5_clashes 26 = .ok (.aload_n 0, 1) := by decide +kernel
theorem dX5_clashes_27 : decode cX5_clashes 27 = .ok (.getfield 28, 3) := by decide +kernel
theorem dX5_clashes_30 : decode cX5_clashes 30 = .ok (.iload_n 2, 1) := by decide +kernel
theorem dX5_clashes_31 : decode cX5_clashes 31 = .ok (.iaload, 1) := by decide +kernel
theorem dX5_clashes_32 : decode cX5_clashes 32 = .ok (.aload_n 0, 1) := by decide +kernel
theorem dX5_clashes_33 : decode cX5_clashes 33 = .ok (.getfield 28, 3) := by decide +kernel
theorem dX5_clashes_36 : decode cX5_clashes 36 = .ok (.iload_n 3, 1) := by decide +kernel
theorem dX5_clashes_37 : decode cX5_clashes 37 = .ok (.iaload, 1) := by decide +kernel
theorem dX5_clashes_38 : decode cX5_clashes 38 = .ok (.invokevirtual 85, 3) := by decide +kernel
theorem dX5_clashes_41 : decode cX5_clashes 41 = .ok (.ifCond .eq 16, 3) := by decide +kernel
theorem dX5_clashes_44 : decode cX5_clashes 44 = .ok (.aload_n 0, 1) := by decide +kernel
theorem dX5_clashes_45 : decode cX5_clashes 45 = .ok (.iload_n 2, 1) := by decide +kernel
theorem dX5_clashes_46 : decode cX5_clashes 46 = .ok (.iload_n 3, 1) := by decide +kernel
theorem dX5_clashes_47 : decode cX5_clashes 47 = .ok (.invokevirtual 117, 3) := by decide +kernel
theorem dX5_clashes_50 : decode cX5_clashes 50 = .ok (.ifCond .le 7, 3) := by decide +kernel
theorem dX5_clashes_53 : decode cX5_clashes 53 = .ok (.iconst 1, 1) := by decide +kernel
theorem dX5_clashes_54 : decode cX5_clashes 54 = .ok (.goto 4, 3) := by decide +kernel
theorem dX5_clashes_57 : decode cX5_clashes 57 = .ok (.iconst 0, 1) := by decide +kernel
theorem dX5_clashes_58 : decode cX5_clashes 58 = .ok (.iadd, 1) := by decide +kernel
theorem dX5_clashes_59 : decode cX5_clashes 59 = .ok (.istore_n 1, 1) := by decide +kernel
theorem dX5_clashes_60 : decode cX5_clashes 60 = .ok (.iinc 3 1, 3) := by decide +kernel
theorem dX5_clashes_63 : decode cX5_clashes 63 = .ok (.goto (-44), 3) := by decide +kernel
theorem dX5_clashes_66 : decode cX5_clashes 66 = .ok (.iinc 2 1, 3) := by decide +kernel
theorem dX5_clashes_69 : decode cX5_clashes 69 = .ok (.goto (-60), 3) := by decide +kernel
theorem dX5_clashes_72 : decode cX5_clashes 72 = .ok (.iload_n 1, 1) := by decide +kernel
theorem dX5_clashes_73 : decode cX5_clashes 73 = .ok (.ireturn, 1) := by decide +kernel
theorem dX5_notices_0 : decode cX5_notices 0 = .ok (.aload_n 0, 1) := by decide +kernel
theorem dX5_notices_1 : decode cX5_notices 1 = .ok (.iconst 0, 1) := by decide +kernel
theorem dX5_notices_2 : decode cX5_notices 2 = .ok (.putfield 53, 3) := by decide +kernel
theorem dX5_notices_5 : decode cX5_notices 5 = .ok (.aload_n 0, 1) := by decide +kernel
theorem dX5_notices_6 : decode cX5_notices 6 = .ok (.getfield 91, 3) := by decide +kernel
theorem dX5_notices_9 : decode cX5_notices 9 = .ok (.ireturn, 1) := by decide +kernel
theorem dX5_puts_0 : decode cX5_puts 0 = .ok (.iconst 0, 1) := by decide +kernel
theorem dX5_puts_1 : decode cX5_puts 1 = .ok (.istore_n 3, 1) := by decide +kernel
theorem dX5_puts_2 : decode cX5_puts 2 = .ok (.iload_n 3, 1) := by decide +kernel
theorem dX5_puts_3 : decode cX5_puts 3 = .ok (.iload_n 2, 1) := by decide +kernel
theorem dX5_puts_4 : decode cX5_puts 4 = .ok (.if_icmp .ge 79, 3) := by decide +kernel
theorem dX5_puts_7 : decode cX5_puts 7 = .ok (.aload_n 0, 1) := by decide +kernel
theorem dX5_puts_8 : decode cX5_puts 8 = .ok (.getfield 47, 3) := by decide +kernel
theorem dX5_puts_11 : decode cX5_puts 11 = .ok (.iload_n 1, 1) := by decide +kernel
theorem dX5_puts_12 : decode cX5_puts 12 = .ok (.iaload, 1) := by decide +kernel
theorem dX5_puts_13 : decode cX5_puts 13 = .ok (.aload_n 0, 1) := by decide +kernel
theorem dX5_puts_14 : decode cX5_puts 14 = .ok (.getfield 91, 3) := by decide +kernel
theorem dX5_puts_17 : decode cX5_puts 17 = .ok (.if_icmp .ge 66, 3) := by decide +kernel
theorem dX5_puts_20 : decode cX5_puts 20 = .ok (.aload_n 0, 1) := by decide +kernel
theorem dX5_puts_21 : decode cX5_puts 21 = .ok (.getfield 44, 3) := by decide +kernel
theorem dX5_puts_24 : decode cX5_puts 24 = .ok (.aload_n 0, 1) := by decide +kernel
theorem dX5_puts_25 : decode cX5_puts 25 = .ok (.getfield 47, 3) := by decide +kernel
theorem dX5_puts_28 : decode cX5_puts 28 = .ok (.iload_n 1, 1) := by decide +kernel
theorem dX5_puts_29 : decode cX5_puts 29 = .ok (.iaload, 1) := by decide +kernel
theorem dX5_puts_30 : decode cX5_puts 30 = .ok (.iaload, 1) := by decide +kernel
theorem dX5_puts_31 : decode cX5_puts 31 = .ok (.istore 4, 2) := by decide +kernel
theorem dX5_puts_33 : decode cX5_puts 33 = .ok (.aload_n 0, 1) := by decide +kernel
theorem dX5_puts_34 : decode cX5_puts 34 = .ok (.getfield 50, 3) := by decide +kernel
theorem dX5_puts_37 : decode cX5_puts 37 = .ok (.bipush 12, 2) := by decide +kernel
theorem dX5_puts_39 : decode cX5_puts 39 = .ok (.iload_n 1, 1) := by decide +kernel
theorem dX5_puts_40 : decode cX5_puts 40 = .ok (.imul, 1) := by decide +kernel
theorem dX5_puts_41 : decode cX5_puts 41 = .ok (.iload 4, 2) := by decide +kernel
theorem dX5_puts_43 : decode cX5_puts 43 = .ok (.bipush 32, 2) := by decide +kernel
theorem dX5_puts_45 : decode cX5_puts 45 = .ok (.idiv, 1) := by decide +kernel
theorem dX5_puts_46 : decode cX5_puts 46 = .ok (.iadd, 1) := by decide +kernel
theorem dX5_puts_47 : decode cX5_puts 47 = .ok (.iload 4, 2) := by decide +kernel
theorem dX5_puts_49 : decode cX5_puts 49 = .ok (.bipush 32, 2) := by decide +kernel
theorem dX5_puts_51 : decode cX5_puts 51 = .ok (.irem, 1) := by decide +kernel
theorem dX5_puts_52 : decode cX5_puts 52 = .ok (.bipush 31, 2) := by decide +kernel
theorem dX5_puts_54 : decode cX5_puts 54 = .ok (.if_icmp .ne 7, 3) := by decide +kernel
theorem dX5_puts_57 : decode cX5_puts 57 = .ok (.iconst (-1), 1) := by decide +kernel
theorem dX5_puts_58 : decode cX5_puts 58 = .ok (.goto 8, 3) := by decide +kernel
theorem dX5_puts_61 : decode cX5_puts 61 = .ok (.iload 4, 2) := by decide +kernel
theorem dX5_puts_63 : decode cX5_puts 63 = .ok (.bipush 32, 2) := by decide +kernel
theorem dX5_puts_65 : decode cX5_puts 65 = .ok (.irem, 1) := by decide +kernel
theorem dX5_puts_66 : decode cX5_puts 66 = .ok (.iastore, 1) := by decide +kernel
theorem dX5_puts_67 : decode cX5_puts 67 = .ok (.aload_n 0, 1) := by decide +kernel
theorem dX5_puts_68 : decode cX5_puts 68 = .ok (.getfield 47, 3) := by decide +kernel
theorem dX5_puts_71 : decode cX5_puts 71 = .ok (.iload_n 1, 1) := by decide +kernel
theorem dX5_puts_72 : decode cX5_puts 72 = .ok (.dup2, 1) := by decide +kernel
theorem dX5_puts_73 : decode cX5_puts 73 = .ok (.iaload, 1) := by decide +kernel
theorem dX5_puts_74 : decode cX5_puts 74 = .ok (.iconst 1, 1) := by decide +kernel
theorem dX5_puts_75 : decode cX5_puts 75 = .ok (.iadd, 1) := by decide +kernel
theorem dX5_puts_76 : decode cX5_puts 76 = .ok (.iastore, 1) := by decide +kernel
theorem dX5_puts_77 : decode cX5_puts 77 = .ok (.iinc 3 1, 3) := by decide +kernel
theorem dX5_puts_80 : decode cX5_puts 80 = .ok (.goto (-78), 3) := by decide +kernel
theorem dX5_puts_83 : decode cX5_puts 83 = .ok (.iload_n 3, 1) := by decide +kernel
theorem dX5_puts_84 : decode cX5_puts 84 = .ok (.ireturn, 1) := by decide +kernel
theorem dX5_print_0 : decode cX5_print 0 = .ok (.aload_n 0, 1) := by decide +kernel
theorem dX5_print_1 : decode cX5_print 1 = .ok (.aload_n 0, 1) := by decide +kernel
theorem dX5_print_2 : decode cX5_print 2 = .ok (.getfield 67, 3) := by decide +kernel
theorem dX5_print_5 : decode cX5_print 5 = .ok (.bipush 10, 2) := by decide +kernel
theorem dX5_print_7 : decode cX5_print 7 = .ok (.if_icmp .ne 7, 3) := by decide +kernel
theorem dX5_print_10 : decode cX5_print 10 = .ok (.iconst 1, 1) := by decide +kernel
theorem dX5_print_11 : decode cX5_print 11 = .ok (.goto 4, 3) := by decide +kernel
theorem dX5_print_14 : decode cX5_print 14 = .ok (.iconst 0, 1) := by decide +kernel
theorem dX5_print_15 : decode cX5_print 15 = .ok (.putfield 53, 3) := by decide +kernel
theorem dX5_print_18 : decode cX5_print 18 = .ok (.aload_n 0, 1) := by decide +kernel
theorem dX5_print_19 : decode cX5_print 19 = .ok (.getfield 53, 3) := by decide +kernel
theorem dX5_print_22 : decode cX5_print 22 = .ok (.ifCond .le 5, 3) := by decide +kernel
theorem dX5_print_25 : decode cX5_print 25 = .ok (.iconst 0, 1) := by decide +kernel
theorem dX5_print_26 : decode cX5_print 26 = .ok (.ireturn, 1) := by decide +kernel
theorem dX5_print_27 : decode cX5_print 27 = .ok (.iconst 0, 1) := by decide +kernel
theorem dX5_print_28 : decode cX5_print 28 = .ok (.istore_n 1, 1) := by decide +kernel
theorem dX5_print_29 : decode cX5_print 29 = .ok (.iload_n 1, 1) := by decide +kernel
theorem dX5_print_30 : decode cX5_print 30 = .ok (.bipush 12, 2) := by decide +kernel
theorem dX5_print_32 : decode cX5_print 32 = .ok (.if_icmp .ge 24, 3) := by decide +kernel
theorem dX5_print_35 : decode cX5_print 35 = .ok (.aload_n 0, 1) := by decide +kernel
theorem dX5_print_36 : decode cX5_print 36 = .ok (.getfield 50, 3) := by decide +kernel
theorem dX5_print_39 : decode cX5_print 39 = .ok (.bipush 12, 2) := by decide +kernel
theorem dX5_print_41 : decode cX5_print 41 = .ok (.aload_n 0, 1) := by decide +kernel
theorem dX5_print_42 : decode cX5_print 42 = .ok (.getfield 67, 3) := by decide +kernel
theorem dX5_print_45 : decode cX5_print 45 = .ok (.imul, 1) := by decide +kernel
theorem dX5_print_46 : decode cX5_print 46 = .ok (.iload_n 1, 1) := by decide +kernel
theorem dX5_print_47 : decode cX5_print 47 = .ok (.iadd, 1) := by decide +kernel
theorem dX5_print_48 : decode cX5_print 48 = .ok (.iconst (-1), 1) := by decide +kernel
theorem dX5_print_49 : decode cX5_print 49 = .ok (.iastore, 1) := by decide +kernel
theorem dX5_print_50 : decode cX5_print 50 = .ok (.iinc 1 1, 3) := by decide +kernel
theorem dX5_print_53 : decode cX5_print 53 = .ok (.goto (-24), 3) := by decide +kernel
theorem dX5_print_56 : decode cX5_print 56 = .ok (.aload_n 0, 1) := by decide +kernel
theorem dX5_print_57 : decode cX5_print 57 = .ok (.aload_n 0, 1) := by decide +kernel
theorem dX5_print_58 : decode cX5_print 58 = .ok (.getfield 67, 3) := by decide +kernel
theorem dX5_print_61 : decode cX5_print 61 = .ok (.aload_n 0, 1) := by decide +kernel
theorem dX5_print_62 : decode cX5_print 62 = .ok (.getfield 91, 3) := by decide +kernel
theorem dX5_print_65 : decode cX5_print 65 = .ok (.invokevirtual 121, 3) := by decide +kernel
theorem dX5_print_68 : decode cX5_print 68 = .ok (.pop, 1) := by decide +kernel
theorem dX5_print_69 : decode cX5_print 69 = .ok (.aload_n 0, 1) := by decide +kernel
theorem dX5_print_70 : decode cX5_print 70 = .ok (.dup, 1) := by decide +kernel
theorem dX5_print_71 : decode cX5_print 71 = .ok (.getfield 67, 3) := by decide +kernel
theorem dX5_print_74 : decode cX5_print 74 = .ok (.iconst 1, 1) := by decide +kernel
theorem dX5_print_75 : decode cX5_print 75 = .ok (.iadd, 1) := by decide +kernel
theorem dX5_print_76 : decode cX5_print 76 = .ok (.putfield 67, 3) := by decide +kernel
theorem dX5_print_79 : decode cX5_print 79 = .ok (.aload_n 0, 1) := by decide +kernel
theorem dX5_print_80 : decode cX5_print 80 = .ok (.getfield 67, 3) := by decide +kernel
theorem dX5_print_83 : decode cX5_print 83 = .ok (.iconst 1, 1) := by decide +kernel
theorem dX5_print_84 : decode cX5_print 84 = .ok (.isub, 1) := by decide +kernel
theorem dX5_print_85 : decode cX5_print 85 = .ok (.ireturn, 1) := by decide +kernel
theorem dX5_correct_0 : decode cX5_correct 0 = .ok (.aload_n 0, 1) := by decide +kernel
theorem dX5_correct_1 : decode cX5_correct 1 = .ok (.aload_n 0, 1) := by decide +kernel
theorem dX5_correct_2 : decode cX5_correct 2 = .ok (.iload_n 1, 1) := by decide +kernel
theorem dX5_correct_3 : decode cX5_correct 3 = .ok (.invokevirtual 124, 3) := by decide +kernel
theorem dX5_correct_6 : decode cX5_correct 6 = .ok (.ifCond .ne 7, 3) := by decide +kernel
theorem dX5_correct_9 : decode cX5_correct 9 = .ok (.iconst 1, 1) := by decide +kernel
theorem dX5_correct_10 : decode cX5_correct 10 = .ok (.goto 18, 3) := by decide +kernel
theorem dX5_correct_13 : decode cX5_correct 13 = .ok (.iload_n 2, 1) := by decide +kernel
theorem dX5_correct_14 : decode cX5_correct 14 = .ok (.iconst 1, 1) := by decide +kernel
theorem dX5_correct_15 : decode cX5_correct 15 = .ok (.bipush 100, 2) := by decide +kernel
theorem dX5_correct_17 : decode cX5_correct 17 = .ok (.invokestatic 60, 3) := by decide +kernel
theorem dX5_correct_20 : decode cX5_correct 20 = .ok (.ifCond .eq 7, 3) := by decide +kernel
theorem dX5_correct_23 : decode cX5_correct 23 = .ok (.iconst 0, 1) := by decide +kernel
theorem dX5_correct_24 : decode cX5_correct 24 = .ok (.goto 4, 3) := by decide +kernel
theorem dX5_correct_27 : decode cX5_correct 27 = .ok (.iconst 2, 1) := by decide +kernel
theorem dX5_correct_28 : decode cX5_correct 28 = .ok (.putfield 53, 3) := by decide +kernel
theorem dX5_correct_31 : decode cX5_correct 31 = .ok (.aload_n 0, 1) := by decide +kernel
theorem dX5_correct_32 : decode cX5_correct 32 = .ok (.getfield 53, 3) := by decide +kernel
theorem dX5_correct_35 : decode cX5_correct 35 = .ok (.ifCond .le 7, 3) := by decide +kernel
theorem dX5_correct_38 : decode cX5_correct 38 = .ok (.iconst 0, 1) := by decide +kernel
theorem dX5_correct_39 : decode cX5_correct 39 = .ok (.goto 9, 3) := by decide +kernel
theorem dX5_correct_42 : decode cX5_correct 42 = .ok (.aload_n 0, 1) := by decide +kernel
theorem dX5_correct_43 : decode cX5_correct 43 = .ok (.iload_n 1, 1) := by decide +kernel
theorem dX5_correct_44 : decode cX5_correct 44 = .ok (.iload_n 2, 1) := by decide +kernel
theorem dX5_correct_45 : decode cX5_correct 45 = .ok (.invokevirtual 121, 3) := by decide +kernel
theorem dX5_correct_48 : decode cX5_correct 48 = .ok (.ireturn, 1) := by decide +kernel
theorem dX5_behind_0 : decode cX5_behind 0 = .ok (.aload_n 0, 1) := by decide +kernel
theorem dX5_behind_1 : decode cX5_behind 1 = .ok (.aload_n 0, 1) := by decide +kernel
theorem dX5_behind_2 : decode cX5_behind 2 = .ok (.iload_n 1, 1) := by decide +kernel
theorem dX5_behind_3 : decode cX5_behind 3 = .ok (.invokevirtual 124, 3) := by decide +kernel
theorem dX5_behind_6 : decode cX5_behind 6 = .ok (.ifCond .eq 7, 3) := by decide +kernel
theorem dX5_behind_9 : decode cX5_behind 9 = .ok (.iconst 0, 1) := by decide +kernel
theorem dX5_behind_10 : decode cX5_behind 10 = .ok (.goto 4, 3) := by decide +kernel
theorem dX5_behind_13 : decode cX5_behind 13 = .ok (.iconst 1, 1) := by decide +kernel
theorem dX5_behind_14 : decode cX5_behind 14 = .ok (.putfield 53, 3) := by decide +kernel
theorem dX5_behind_17 : decode cX5_behind 17 = .ok (.aload_n 0, 1) := by decide +kernel
theorem dX5_behind_18 : decode cX5_behind 18 = .ok (.getfield 53, 3) := by decide +kernel
theorem dX5_behind_21 : decode cX5_behind 21 = .ok (.ifCond .le 7, 3) := by decide +kernel
theorem dX5_behind_24 : decode cX5_behind 24 = .ok (.iconst 0, 1) := by decide +kernel
theorem dX5_behind_25 : decode cX5_behind 25 = .ok (.goto 14, 3) := by decide +kernel
theorem dX5_behind_28 : decode cX5_behind 28 = .ok (.aload_n 0, 1) := by decide +kernel
theorem dX5_behind_29 : decode cX5_behind 29 = .ok (.getfield 91, 3) := by decide +kernel
theorem dX5_behind_32 : decode cX5_behind 32 = .ok (.aload_n 0, 1) := by decide +kernel
theorem dX5_behind_33 : decode cX5_behind 33 = .ok (.getfield 47, 3) := by decide +kernel
theorem dX5_behind_36 : decode cX5_behind 36 = .ok (.iload_n 1, 1) := by decide +kernel
theorem dX5_behind_37 : decode cX5_behind 37 = .ok (.iaload, 1) := by decide +kernel
theorem dX5_behind_38 : decode cX5_behind 38 = .ok (.isub, 1) := by decide +kernel
theorem dX5_behind_39 : decode cX5_behind 39 = .ok (.ireturn, 1) := by decide +kernel
theorem dX5_shown_0 : decode cX5_shown 0 = .ok (.aload_n 0, 1) := by decide +kernel
theorem dX5_shown_1 : decode cX5_shown 1 = .ok (.aload_n 0, 1) := by decide +kernel
theorem dX5_shown_2 : decode cX5_shown 2 = .ok (.iload_n 1, 1) := by decide +kernel
theorem dX5_shown_3 : decode cX5_shown 3 = .ok (.invokevirtual 124, 3) := by decide +kernel
theorem dX5_shown_6 : decode cX5_shown 6 = .ok (.ifCond .eq 15, 3) := by decide +kernel
theorem dX5_shown_9 : decode cX5_shown 9 = .ok (.aload_n 0, 1) := by decide +kernel
theorem dX5_shown_10 : decode cX5_shown 10 = .ok (.iload_n 2, 1) := by decide +kernel
theorem dX5_shown_11 : decode cX5_shown 11 = .ok (.invokevirtual 100, 3) := by decide +kernel
theorem dX5_shown_14 : decode cX5_shown 14 = .ok (.ifCond .eq 7, 3) := by decide +kernel
theorem dX5_shown_17 : decode cX5_shown 17 = .ok (.iconst 0, 1) := by decide +kernel
theorem dX5_shown_18 : decode cX5_shown 18 = .ok (.goto 4, 3) := by decide +kernel
theorem dX5_shown_21 : decode cX5_shown 21 = .ok (.iconst 1, 1) := by decide +kernel
theorem dX5_shown_22 : decode cX5_shown 22 = .ok (.putfield 53, 3) := by decide +kernel
theorem dX5_shown_25 : decode cX5_shown 25 = .ok (.aload_n 0, 1) := by decide +kernel
theorem dX5_shown_26 : decode cX5_shown 26 = .ok (.getfield 53, 3) := by decide +kernel
theorem dX5_shown_29 : decode cX5_shown 29 = .ok (.ifCond .le 7, 3) := by decide +kernel
theorem dX5_shown_32 : decode cX5_shown 32 = .ok (.iconst 0, 1) := by decide +kernel
theorem dX5_shown_33 : decode cX5_shown 33 = .ok (.goto 14, 3) := by decide +kernel
theorem dX5_shown_36 : decode cX5_shown 36 = .ok (.aload_n 0, 1) := by decide +kernel
theorem dX5_shown_37 : decode cX5_shown 37 = .ok (.getfield 50, 3) := by decide +kernel
theorem dX5_shown_40 : decode cX5_shown 40 = .ok (.bipush 12, 2) := by decide +kernel
theorem dX5_shown_42 : decode cX5_shown 42 = .ok (.iload_n 1, 1) := by decide +kernel
theorem dX5_shown_43 : decode cX5_shown 43 = .ok (.imul, 1) := by decide +kernel
theorem dX5_shown_44 : decode cX5_shown 44 = .ok (.iload_n 2, 1) := by decide +kernel
theorem dX5_shown_45 : decode cX5_shown 45 = .ok (.iadd, 1) := by decide +kernel
theorem dX5_shown_46 : decode cX5_shown 46 = .ok (.iaload, 1) := by decide +kernel
theorem dX5_shown_47 : decode cX5_shown 47 = .ok (.ireturn, 1) := by decide +kernel
theorem dX5_could_0 : decode cX5_could 0 = .ok (.iconst 0, 1) := by decide +kernel
theorem dX5_could_1 : decode cX5_could 1 = .ok (.istore 5, 2) := by decide +kernel
theorem dX5_could_3 : decode cX5_could 3 = .ok (.iconst 0, 1) := by decide +kernel
theorem dX5_could_4 : decode cX5_could 4 = .ok (.istore 6, 2) := by decide +kernel
theorem dX5_could_6 : decode cX5_could 6 = .ok (.iload 6, 2) := by decide +kernel
theorem dX5_could_8 : decode cX5_could 8 = .ok (.aload_n 0, 1) := by decide +kernel
theorem dX5_could_9 : decode cX5_could 9 = .ok (.getfield 19, 3) := by decide +kernel
theorem dX5_could_12 : decode cX5_could 12 = .ok (.iload_n 1, 1) := by decide +kernel
theorem dX5_could_13 : decode cX5_could 13 = .ok (.iaload, 1) := by decide +kernel
theorem dX5_could_14 : decode cX5_could 14 = .ok (.if_icmp .ge 67, 3) := by decide +kernel
theorem dX5_could_17 : decode cX5_could 17 = .ok (.iconst 1, 1) := by decide +kernel
theorem dX5_could_18 : decode cX5_could 18 = .ok (.istore 7, 2) := by decide +kernel
theorem dX5_could_20 : decode cX5_could 20 = .ok (.iconst 0, 1) := by decide +kernel
theorem dX5_could_21 : decode cX5_could 21 = .ok (.istore 8, 2) := by decide +kernel
theorem dX5_could_23 : decode cX5_could 23 = .ok (.iload 8, 2) := by decide +kernel
theorem dX5_could_25 : decode cX5_could 25 = .ok (.iload 4, 2) := by decide +kernel
theorem dX5_could_27 : decode cX5_could 27 = .ok (.if_icmp .ge 41, 3) := by decide +kernel
theorem dX5_could_30 : decode cX5_could 30 = .ok (.iload 7, 2) := by decide +kernel
theorem dX5_could_32 : decode cX5_could 32 = .ok (.aload_n 0, 1) := by decide +kernel
theorem dX5_could_33 : decode cX5_could 33 = .ok (.iload_n 1, 1) := by decide +kernel
theorem dX5_could_34 : decode cX5_could 34 = .ok (.iload 6, 2) := by decide +kernel
theorem dX5_could_36 : decode cX5_could 36 = .ok (.iload 8, 2) := by decide +kernel
theorem dX5_could_38 : decode cX5_could 38 = .ok (.iadd, 1) := by decide +kernel
theorem dX5_could_39 : decode cX5_could 39 = .ok (.invokevirtual 77, 3) := by decide +kernel
theorem dX5_could_42 : decode cX5_could 42 = .ok (.aload_n 0, 1) := by decide +kernel
theorem dX5_could_43 : decode cX5_could 43 = .ok (.iload_n 2, 1) := by decide +kernel
theorem dX5_could_44 : decode cX5_could 44 = .ok (.iload_n 3, 1) := by decide +kernel
theorem dX5_could_45 : decode cX5_could 45 = .ok (.iload 8, 2) := by decide +kernel
theorem dX5_could_47 : decode cX5_could 47 = .ok (.iadd, 1) := by decide +kernel
theorem dX5_could_48 : decode cX5_could 48 = .ok (.invokevirtual 104, 3) := by decide +kernel
theorem dX5_could_51 : decode cX5_could 51 = .ok (.if_icmp .ne 7, 3) := by decide +kernel
theorem dX5_could_54 : decode cX5_could 54 = .ok (.iconst 1, 1) := by decide +kernel
theorem dX5_could_55 : decode cX5_could 55 = .ok (.goto 4, 3) := by decide +kernel
theorem dX5_could_58 : decode cX5_could 58 = .ok (.iconst 0, 1) := by decide +kernel
theorem dX5_could_59 : decode cX5_could 59 = .ok (.iand, 1) := by decide +kernel
theorem dX5_could_60 : decode cX5_could 60 = .ok (.istore 7, 2) := by decide +kernel
theorem dX5_could_62 : decode cX5_could 62 = .ok (.iinc 8 1, 3) := by decide +kernel
theorem dX5_could_65 : decode cX5_could 65 = .ok (.goto (-42), 3) := by decide +kernel
theorem dX5_could_68 : decode cX5_could 68 = .ok (.iload 5, 2) := by decide +kernel
theorem dX5_could_70 : decode cX5_could 70 = .ok (.iload 7, 2) := by decide +kernel
theorem dX5_could_72 : decode cX5_could 72 = .ok (.ior, 1) := by decide +kernel
theorem dX5_could_73 : decode cX5_could 73 = .ok (.istore 5, 2) := by decide +kernel
theorem dX5_could_75 : decode cX5_could 75 = .ok (.iinc 6 1, 3) := by decide +kernel
theorem dX5_could_78 : decode cX5_could 78 = .ok (.goto (-72), 3) := by decide +kernel
theorem dX5_could_81 : decode cX5_could 81 = .ok (.iload 5, 2) := by decide +kernel
theorem dX5_could_83 : decode cX5_could 83 = .ok (.ireturn, 1) := by decide +kernel
theorem dX5_taken_0 : decode cX5_taken 0 = .ok (.iload_n 2, 1) := by decide +kernel
theorem dX5_taken_1 : decode cX5_taken 1 = .ok (.iload_n 3, 1) := by decide +kernel
theorem dX5_taken_2 : decode cX5_taken 2 = .ok (.invokestatic 94, 3) := by decide +kernel
theorem dX5_taken_5 : decode cX5_taken 5 = .ok (.ifCond .eq 30, 3) := by decide +kernel
theorem dX5_taken_8 : decode cX5_taken 8 = .ok (.iload 5, 2) := by decide +kernel
theorem dX5_taken_10 : decode cX5_taken 10 = .ok (.iconst 0, 1) := by decide +kernel
theorem dX5_taken_11 : decode cX5_taken 11 = .ok (.sipush 1000, 3) := by decide +kernel
theorem dX5_taken_14 : decode cX5_taken 14 = .ok (.invokestatic 60, 3) := by decide +kernel
theorem dX5_taken_17 : decode cX5_taken 17 = .ok (.ifCond .eq 18, 3) := by decide +kernel
theorem dX5_taken_20 : decode cX5_taken 20 = .ok (.iload 6, 2) := by decide +kernel
theorem dX5_taken_22 : decode cX5_taken 22 = .ok (.iconst 1, 1) := by decide +kernel
theorem dX5_taken_23 : decode cX5_taken 23 = .ok (.bipush 60, 2) := by decide +kernel
theorem dX5_taken_25 : decode cX5_taken 25 = .ok (.invokestatic 60, 3) := by decide +kernel
theorem dX5_taken_28 : decode cX5_taken 28 = .ok (.ifCond .eq 7, 3) := by decide +kernel
theorem dX5_taken_31 : decode cX5_taken 31 = .ok (.iconst 1, 1) := by decide +kernel
theorem dX5_taken_32 : decode cX5_taken 32 = .ok (.goto 4, 3) := by decide +kernel
theorem dX5_taken_35 : decode cX5_taken 35 = .ok (.iconst 0, 1) := by decide +kernel
theorem dX5_taken_36 : decode cX5_taken 36 = .ok (.istore 7, 2) := by decide +kernel
theorem dX5_taken_38 : decode cX5_taken 38 = .ok (.aload_n 0, 1) := by decide +kernel
theorem dX5_taken_39 : decode cX5_taken 39 = .ok (.aload_n 0, 1) := by decide +kernel
theorem dX5_taken_40 : decode cX5_taken 40 = .ok (.iload_n 1, 1) := by decide +kernel
theorem dX5_taken_41 : decode cX5_taken 41 = .ok (.invokevirtual 124, 3) := by decide +kernel
theorem dX5_taken_44 : decode cX5_taken 44 = .ok (.ifCond .eq 12, 3) := by decide +kernel
theorem dX5_taken_47 : decode cX5_taken 47 = .ok (.aload_n 0, 1) := by decide +kernel
theorem dX5_taken_48 : decode cX5_taken 48 = .ok (.iload 4, 2) := by decide +kernel
theorem dX5_taken_50 : decode cX5_taken 50 = .ok (.invokevirtual 100, 3) := by decide +kernel
theorem dX5_taken_53 : decode cX5_taken 53 = .ok (.ifCond .ne 7, 3) := by decide +kernel
theorem dX5_taken_56 : decode cX5_taken 56 = .ok (.iconst 1, 1) := by decide +kernel
theorem dX5_taken_57 : decode cX5_taken 57 = .ok (.goto 13, 3) := by decide +kernel
theorem dX5_taken_60 : decode cX5_taken 60 = .ok (.iload 7, 2) := by decide +kernel
theorem dX5_taken_62 : decode cX5_taken 62 = .ok (.ifCond .eq 7, 3) := by decide +kernel
theorem dX5_taken_65 : decode cX5_taken 65 = .ok (.iconst 0, 1) := by decide +kernel
theorem dX5_taken_66 : decode cX5_taken 66 = .ok (.goto 4, 3) := by decide +kernel
theorem dX5_taken_69 : decode cX5_taken 69 = .ok (.iconst 2, 1) := by decide +kernel
theorem dX5_taken_70 : decode cX5_taken 70 = .ok (.putfield 53, 3) := by decide +kernel
theorem dX5_taken_73 : decode cX5_taken 73 = .ok (.aload_n 0, 1) := by decide +kernel
theorem dX5_taken_74 : decode cX5_taken 74 = .ok (.getfield 53, 3) := by decide +kernel
theorem dX5_taken_77 : decode cX5_taken 77 = .ok (.ifCond .le 5, 3) := by decide +kernel
theorem dX5_taken_80 : decode cX5_taken 80 = .ok (.iconst 0, 1) := by decide +kernel
theorem dX5_taken_81 : decode cX5_taken 81 = .ok (.ireturn, 1) := by decide +kernel
theorem dX5_taken_82 : decode cX5_taken 82 = .ok (.iconst (-1), 1) := by decide +kernel
theorem dX5_taken_83 : decode cX5_taken 83 = .ok (.istore 8, 2) := by decide +kernel
theorem dX5_taken_85 : decode cX5_taken 85 = .ok (.iconst 0, 1) := by decide +kernel
theorem dX5_taken_86 : decode cX5_taken 86 = .ok (.istore 9, 2) := by decide +kernel
theorem dX5_taken_88 : decode cX5_taken 88 = .ok (.iload 9, 2) := by decide +kernel
theorem dX5_taken_90 : decode cX5_taken 90 = .ok (.aload_n 0, 1) := by decide +kernel
theorem dX5_taken_91 : decode cX5_taken 91 = .ok (.getfield 64, 3) := by decide +kernel
theorem dX5_taken_94 : decode cX5_taken 94 = .ok (.if_icmp .ge 86, 3) := by decide +kernel
theorem dX5_taken_97 : decode cX5_taken 97 = .ok (.aload_n 0, 1) := by decide +kernel
theorem dX5_taken_98 : decode cX5_taken 98 = .ok (.getfield 50, 3) := by decide +kernel
theorem dX5_taken_101 : decode cX5_taken 101 = .ok (.bipush 12, 2) := by decide +kernel
theorem dX5_taken_103 : decode cX5_taken 103 = .ok (.iload_n 1, 1) := by decide +kernel
theorem dX5_taken_104 : decode cX5_taken 104 = .ok (.imul, 1) := by decide +kernel
theorem dX5_taken_105 : decode cX5_taken 105 = .ok (.iload 9, 2) := by decide +kernel
theorem dX5_taken_107 : decode cX5_taken 107 = .ok (.iadd, 1) := by decide +kernel
theorem dX5_taken_108 : decode cX5_taken 108 = .ok (.iaload, 1) := by decide +kernel
theorem dX5_taken_109 : decode cX5_taken 109 = .ok (.istore 10, 2) := by decide +kernel
theorem dX5_taken_111 : decode cX5_taken 111 = .ok (.iload 10, 2) := by decide +kernel
theorem dX5_taken_113 : decode cX5_taken 113 = .ok (.ifCond .lt 33, 3) := by decide +kernel
theorem dX5_taken_116 : decode cX5_taken 116 = .ok (.aload_n 0, 1) := by decide +kernel
theorem dX5_taken_117 : decode cX5_taken 117 = .ok (.iload 9, 2) := by decide +kernel
theorem dX5_taken_119 : decode cX5_taken 119 = .ok (.iload_n 2, 1) := by decide +kernel
theorem dX5_taken_120 : decode cX5_taken 120 = .ok (.iload_n 3, 1) := by decide +kernel
theorem dX5_taken_121 : decode cX5_taken 121 = .ok (.invokevirtual 114, 3) := by decide +kernel
theorem dX5_taken_124 : decode cX5_taken 124 = .ok (.ifCond .eq 22, 3) := by decide +kernel
theorem dX5_taken_127 : decode cX5_taken 127 = .ok (.aload_n 0, 1) := by decide +kernel
theorem dX5_taken_128 : decode cX5_taken 128 = .ok (.iload 10, 2) := by decide +kernel
theorem dX5_taken_130 : decode cX5_taken 130 = .ok (.iload 4, 2) := by decide +kernel
theorem dX5_taken_132 : decode cX5_taken 132 = .ok (.iload 5, 2) := by decide +kernel
theorem dX5_taken_134 : decode cX5_taken 134 = .ok (.iload 6, 2) := by decide +kernel
theorem dX5_taken_136 : decode cX5_taken 136 = .ok (.invokevirtual 127, 3) := by decide +kernel
theorem dX5_taken_139 : decode cX5_taken 139 = .ok (.ifCond .eq 7, 3) := by decide +kernel
theorem dX5_taken_142 : decode cX5_taken 142 = .ok (.iconst 1, 1) := by decide +kernel
theorem dX5_taken_143 : decode cX5_taken 143 = .ok (.goto 4, 3) := by decide +kernel
theorem dX5_taken_146 : decode cX5_taken 146 = .ok (.iconst 0, 1) := by decide +kernel
theorem dX5_taken_147 : decode cX5_taken 147 = .ok (.istore 11, 2) := by decide +kernel
theorem dX5_taken_149 : decode cX5_taken 149 = .ok (.iload 11, 2) := by decide +kernel
theorem dX5_taken_151 : decode cX5_taken 151 = .ok (.ifCond .ne 8, 3) := by decide +kernel
theorem dX5_taken_154 : decode cX5_taken 154 = .ok (.iload 8, 2) := by decide +kernel
theorem dX5_taken_156 : decode cX5_taken 156 = .ok (.goto 16, 3) := by decide +kernel
theorem dX5_taken_159 : decode cX5_taken 159 = .ok (.iload 8, 2) := by decide +kernel
theorem dX5_taken_161 : decode cX5_taken 161 = .ok (.iconst (-1), 1) := by decide +kernel
theorem dX5_taken_162 : decode cX5_taken 162 = .ok (.if_icmp .ne 8, 3) := by decide +kernel
theorem dX5_taken_165 : decode cX5_taken 165 = .ok (.iload 9, 2) := by decide +kernel
theorem dX5_taken_167 : decode cX5_taken 167 = .ok (.goto 5, 3) := by decide +kernel
theorem dX5_taken_170 : decode cX5_taken 170 = .ok (.bipush (-2), 2) := by decide +kernel
theorem dX5_taken_172 : decode cX5_taken 172 = .ok (.istore 8, 2) := by decide +kernel
theorem dX5_taken_174 : decode cX5_taken 174 = .ok (.iinc 9 1, 3) := by decide +kernel
theorem dX5_taken_177 : decode cX5_taken 177 = .ok (.goto (-89), 3) := by decide +kernel
theorem dX5_taken_180 : decode cX5_taken 180 = .ok (.iload 8, 2) := by decide +kernel
theorem dX5_taken_182 : decode cX5_taken 182 = .ok (.ireturn, 1) := by decide +kernel
theorem dJ6_bitCount_0f7a4_0 : decode cJ6_bitCount_0f7a4 0 = .ok (.iload_n 0, 1) := by decide +kernel
theorem dJ6_bitCount_0f7a4_1 : decode cJ6_bitCount_0f7a4 1 = .ok (.iload_n 0, 1) := by decide +kernel
theorem dJ6_bitCount_0f7a4_2 : decode cJ6_bitCount_0f7a4 2 = .ok (.iconst 1, 1) := by decide +kernel
theorem dJ6_bitCount_0f7a4_3 : decode cJ6_bitCount_0f7a4 3 = .ok (.iushr, 1) := by decide +kernel
theorem dJ6_bitCount_0f7a4_4 : decode cJ6_bitCount_0f7a4 4 = .ok (.ldc_w 265, 3) := by decide +kernel
theorem dJ6_bitCount_0f7a4_7 : decode cJ6_bitCount_0f7a4 7 = .ok (.iand, 1) := by decide +kernel
theorem dJ6_bitCount_0f7a4_8 : decode cJ6_bitCount_0f7a4 8 = .ok (.isub, 1) := by decide +kernel
theorem dJ6_bitCount_0f7a4_9 : decode cJ6_bitCount_0f7a4 9 = .ok (.istore_n 0, 1) := by decide +kernel
theorem dJ6_bitCount_0f7a4_10 : decode cJ6_bitCount_0f7a4 10 = .ok (.iload_n 0, 1) := by decide +kernel
theorem dJ6_bitCount_0f7a4_11 : decode cJ6_bitCount_0f7a4 11 = .ok (.ldc_w 266, 3) := by decide +kernel
theorem dJ6_bitCount_0f7a4_14 : decode cJ6_bitCount_0f7a4 14 = .ok (.iand, 1) := by decide +kernel
theorem dJ6_bitCount_0f7a4_15 : decode cJ6_bitCount_0f7a4 15 = .ok (.iload_n 0, 1) := by decide +kernel
theorem dJ6_bitCount_0f7a4_16 : decode cJ6_bitCount_0f7a4 16 = .ok (.iconst 2, 1) := by decide +kernel
theorem dJ6_bitCount_0f7a4_17 : decode cJ6_bitCount_0f7a4 17 = .ok (.iushr, 1) := by decide +kernel
theorem dJ6_bitCount_0f7a4_18 : decode cJ6_bitCount_0f7a4 18 = .ok (.ldc_w 266, 3) := by decide +kernel
theorem dJ6_bitCount_0f7a4_21 : decode cJ6_bitCount_0f7a4 21 = .ok (.iand, 1) := by decide +kernel
theorem dJ6_bitCount_0f7a4_22 : decode cJ6_bitCount_0f7a4 22 = .ok (.iadd, 1) := by decide +kernel
theorem dJ6_bitCount_0f7a4_23 : decode cJ6_bitCount_0f7a4 23 = .ok (.istore_n 0, 1) := by decide +kernel
theorem dJ6_bitCount_0f7a4_24 : decode cJ6_bitCount_0f7a4 24 = .ok (.iload_n 0, 1) := by decide +kernel
theorem dJ6_bitCount_0f7a4_25 : decode cJ6_bitCount_0f7a4 25 = .ok (.iload_n 0, 1) := by decide +kernel
theorem dJ6_bitCount_0f7a4_26 : decode cJ6_bitCount_0f7a4 26 = .ok (.iconst 4, 1) := by decide +kernel
theorem dJ6_bitCount_0f7a4_27 : decode cJ6_bitCount_0f7a4 27 = .ok (.iushr, 1) := by decide +kernel
theorem dJ6_bitCount_0f7a4_28 : decode cJ6_bitCount_0f7a4 28 = .ok (.iadd, 1) := by decide +kernel
theorem dJ6_bitCount_0f7a4_29 : decode cJ6_bitCount_0f7a4 29 = .ok (.ldc_w 267, 3) := by decide +kernel
theorem dJ6_bitCount_0f7a4_32 : decode cJ6_bitCount_0f7a4 32 = .ok (.iand, 1) := by decide +kernel
theorem dJ6_bitCount_0f7a4_33 : decode cJ6_bitCount_0f7a4 33 = .ok (.istore_n 0, 1) := by decide +kernel
theorem dJ6_bitCount_0f7a4_34 : decode cJ6_bitCount_0f7a4 34 = .ok (.iload_n 0, 1) := by decide +kernel
theorem dJ6_bitCount_0f7a4_35 : decode cJ6_bitCount_0f7a4 35 = .ok (.iload_n 0, 1) := by decide +kernel
theorem dJ6_bitCount_0f7a4_36 : decode cJ6_bitCount_0f7a4 36 = .ok (.bipush 8, 2) := by decide +kernel
theorem dJ6_bitCount_0f7a4_38 : decode cJ6_bitCount_0f7a4 38 = .ok (.iushr, 1) := by decide +kernel
theorem dJ6_bitCount_0f7a4_39 : decode cJ6_bitCount_0f7a4 39 = .ok (.iadd, 1) := by decide +kernel
theorem dJ6_bitCount_0f7a4_40 : decode cJ6_bitCount_0f7a4 40 = .ok (.istore_n 0, 1) := by decide +kernel
theorem dJ6_bitCount_0f7a4_41 : decode cJ6_bitCount_0f7a4 41 = .ok (.iload_n 0, 1) := by decide +kernel
theorem dJ6_bitCount_0f7a4_42 : decode cJ6_bitCount_0f7a4 42 = .ok (.iload_n 0, 1) := by decide +kernel
theorem dJ6_bitCount_0f7a4_43 : decode cJ6_bitCount_0f7a4 43 = .ok (.bipush 16, 2) := by decide +kernel
theorem dJ6_bitCount_0f7a4_45 : decode cJ6_bitCount_0f7a4 45 = .ok (.iushr, 1) := by decide +kernel
theorem dJ6_bitCount_0f7a4_46 : decode cJ6_bitCount_0f7a4 46 = .ok (.iadd, 1) := by decide +kernel
theorem dJ6_bitCount_0f7a4_47 : decode cJ6_bitCount_0f7a4 47 = .ok (.istore_n 0, 1) := by decide +kernel
theorem dJ6_bitCount_0f7a4_48 : decode cJ6_bitCount_0f7a4 48 = .ok (.iload_n 0, 1) := by decide +kernel
theorem dJ6_bitCount_0f7a4_49 : decode cJ6_bitCount_0f7a4 49 = .ok (.bipush 63, 2) := by decide +kernel
theorem dJ6_bitCount_0f7a4_51 : decode cJ6_bitCount_0f7a4 51 = .ok (.iand, 1) := by decide +kernel
theorem dJ6_bitCount_0f7a4_52 : decode cJ6_bitCount_0f7a4 52 = .ok (.ireturn, 1) := by decide +kernel
theorem dJ9_abs_0f7a4_0 : decode cJ9_abs_0f7a4 0 = .ok (.iload_n 0, 1) := by decide +kernel
theorem dJ9_abs_0f7a4_1 : decode cJ9_abs_0f7a4 1 = .ok (.ifCond .ge 8, 3) := by decide +kernel
theorem dJ9_abs_0f7a4_4 : decode cJ9_abs_0f7a4 4 = .ok (.iload_n 0, 1) := by decide +kernel
theorem dJ9_abs_0f7a4_5 : decode cJ9_abs_0f7a4 5 = .ok (.ineg, 1) := by decide +kernel
theorem dJ9_abs_0f7a4_6 : decode cJ9_abs_0f7a4 6 = .ok (.goto 4, 3) := by decide +kernel
theorem dJ9_abs_0f7a4_9 : decode cJ9_abs_0f7a4 9 = .ok (.iload_n 0, 1) := by decide +kernel
theorem dJ9_abs_0f7a4_10 : decode cJ9_abs_0f7a4 10 = .ok (.ireturn, 1) := by decide +kernel
theorem dJ9_max_7cf53_0 : decode cJ9_max_7cf53 0 = .ok (.iload_n 0, 1) := by decide +kernel
theorem dJ9_max_7cf53_1 : decode cJ9_max_7cf53 1 = .ok (.iload_n 1, 1) := by decide +kernel
theorem dJ9_max_7cf53_2 : decode cJ9_max_7cf53 2 = .ok (.if_icmp .lt 7, 3) := by decide +kernel
theorem dJ9_max_7cf53_5 : decode cJ9_max_7cf53 5 = .ok (.iload_n 0, 1) := by decide +kernel
theorem dJ9_max_7cf53_6 : decode cJ9_max_7cf53 6 = .ok (.goto 4, 3) := by decide +kernel
theorem dJ9_max_7cf53_9 : decode cJ9_max_7cf53 9 = .ok (.iload_n 1, 1) := by decide +kernel
theorem dJ9_max_7cf53_10 : decode cJ9_max_7cf53 10 = .ok (.ireturn, 1) := by decide +kernel
theorem dJ9_min_7cf53_0 : decode cJ9_min_7cf53 0 = .ok (.iload_n 0, 1) := by decide +kernel
theorem dJ9_min_7cf53_1 : decode cJ9_min_7cf53 1 = .ok (.iload_n 1, 1) := by decide +kernel
theorem dJ9_min_7cf53_2 : decode cJ9_min_7cf53 2 = .ok (.if_icmp .gt 7, 3) := by decide +kernel
theorem dJ9_min_7cf53_5 : decode cJ9_min_7cf53 5 = .ok (.iload_n 0, 1) := by decide +kernel
theorem dJ9_min_7cf53_6 : decode cJ9_min_7cf53 6 = .ok (.goto 4, 3) := by decide +kernel
theorem dJ9_min_7cf53_9 : decode cJ9_min_7cf53 9 = .ok (.iload_n 1, 1) := by decide +kernel
theorem dJ9_min_7cf53_10 : decode cJ9_min_7cf53 10 = .ok (.ireturn, 1) := by decide +kernel
theorem dJxa1e45_init_da8c8_0 : decode cJxa1e45_init_da8c8 0 = .ok (.aload_n 0, 1) := by decide +kernel
theorem dJxa1e45_init_da8c8_1 : decode cJxa1e45_init_da8c8 1 = .ok (.invokespecial 1, 3) := by decide +kernel
theorem dJxa1e45_init_da8c8_4 : decode cJxa1e45_init_da8c8 4 = .ok (.return_, 1) := by decide +kernel
theorem dJxc12de_init_da8c8_0 : decode cJxc12de_init_da8c8 0 = .ok (.aload_n 0, 1) := by decide +kernel
theorem dJxc12de_init_da8c8_1 : decode cJxc12de_init_da8c8 1 = .ok (.invokespecial 1, 3) := by decide +kernel
theorem dJxc12de_init_da8c8_4 : decode cJxc12de_init_da8c8 4 = .ok (.aload_n 0, 1) := by decide +kernel
theorem dJxc12de_init_da8c8_5 : decode cJxc12de_init_da8c8 5 = .ok (.iconst 0, 1) := by decide +kernel
theorem dJxc12de_init_da8c8_6 : decode cJxc12de_init_da8c8 6 = .ok (.putfield 7, 3) := by decide +kernel
theorem dJxc12de_init_da8c8_9 : decode cJxc12de_init_da8c8 9 = .ok (.return_, 1) := by decide +kernel
theorem dJx4a65c_init_da8c8_0 : decode cJx4a65c_init_da8c8 0 = .ok (.aload_n 0, 1) := by decide +kernel
theorem dJx4a65c_init_da8c8_1 : decode cJx4a65c_init_da8c8 1 = .ok (.invokespecial 1, 3) := by decide +kernel
theorem dJx4a65c_init_da8c8_4 : decode cJx4a65c_init_da8c8 4 = .ok (.aload_n 0, 1) := by decide +kernel
theorem dJx4a65c_init_da8c8_5 : decode cJx4a65c_init_da8c8 5 = .ok (.getstatic 39, 3) := by decide +kernel
theorem dJx4a65c_init_da8c8_8 : decode cJx4a65c_init_da8c8 8 = .ok (.putfield 9, 3) := by decide +kernel
theorem dJx4a65c_init_da8c8_11 : decode cJx4a65c_init_da8c8 11 = .ok (.return_, 1) := by decide +kernel
theorem dJx4a65c_grow_92f84_0 : decode cJx4a65c_grow_92f84 0 = .ok (.aload_n 0, 1) := by decide +kernel
theorem dJx4a65c_grow_92f84_1 : decode cJx4a65c_grow_92f84 1 = .ok (.getfield 9, 3) := by decide +kernel
theorem dJx4a65c_grow_92f84_4 : decode cJx4a65c_grow_92f84 4 = .ok (.arraylength, 1) := by decide +kernel
theorem dJx4a65c_grow_92f84_5 : decode cJx4a65c_grow_92f84 5 = .ok (.istore_n 2, 1) := by decide +kernel
theorem dJx4a65c_grow_92f84_6 : decode cJx4a65c_grow_92f84 6 = .ok (.iload_n 2, 1) := by decide +kernel
theorem dJx4a65c_grow_92f84_7 : decode cJx4a65c_grow_92f84 7 = .ok (.ifCond .gt 13, 3) := by decide +kernel
theorem dJx4a65c_grow_92f84_10 : decode cJx4a65c_grow_92f84 10 = .ok (.aload_n 0, 1) := by decide +kernel
theorem dJx4a65c_grow_92f84_11 : decode cJx4a65c_grow_92f84 11 = .ok (.getfield 9, 3) := by decide +kernel
theorem dJx4a65c_grow_92f84_14 : decode cJx4a65c_grow_92f84 14 = .ok (.getstatic 39, 3) := by decide +kernel
theorem dJx4a65c_grow_92f84_17 : decode cJx4a65c_grow_92f84 17 = .ok (.if_acmp .eq 28, 3) := by decide +kernel
theorem dJx4a65c_grow_92f84_20 : decode cJx4a65c_grow_92f84 20 = .ok (.iload_n 2, 1) := by decide +kernel
theorem dJx4a65c_grow_92f84_21 : decode cJx4a65c_grow_92f84 21 = .ok (.iload_n 1, 1) := by decide +kernel
theorem dJx4a65c_grow_92f84_22 : decode cJx4a65c_grow_92f84 22 = .ok (.iload_n 2, 1) := by decide +kernel
theorem dJx4a65c_grow_92f84_23 : decode cJx4a65c_grow_92f84 23 = .ok (.isub, 1) := by decide +kernel
theorem dJx4a65c_grow_92f84_24 : decode cJx4a65c_grow_92f84 24 = .ok (.iload_n 2, 1) := by decide +kernel
theorem dJx4a65c_grow_92f84_25 : decode cJx4a65c_grow_92f84 25 = .ok (.iconst 1, 1) := by decide +kernel
theorem dJx4a65c_grow_92f84_26 : decode cJx4a65c_grow_92f84 26 = .ok (.ishr, 1) := by decide +kernel
theorem dJx4a65c_grow_92f84_27 : decode cJx4a65c_grow_92f84 27 = .ok (.invokestatic 73, 3) := by decide +kernel
theorem dJx4a65c_grow_92f84_30 : decode cJx4a65c_grow_92f84 30 = .ok (.istore_n 3, 1) := by decide +kernel
theorem dJx4a65c_grow_92f84_31 : decode cJx4a65c_grow_92f84 31 = .ok (.aload_n 0, 1) := by decide +kernel
theorem dJx4a65c_grow_92f84_32 : decode cJx4a65c_grow_92f84 32 = .ok (.aload_n 0, 1) := by decide +kernel
theorem dJx4a65c_grow_92f84_33 : decode cJx4a65c_grow_92f84 33 = .ok (.getfield 9, 3) := by decide +kernel
theorem dJx4a65c_grow_92f84_36 : decode cJx4a65c_grow_92f84 36 = .ok (.iload_n 3, 1) := by decide +kernel
theorem dJx4a65c_grow_92f84_37 : decode cJx4a65c_grow_92f84 37 = .ok (.invokestatic 66, 3) := by decide +kernel
theorem dJx4a65c_grow_92f84_40 : decode cJx4a65c_grow_92f84 40 = .ok (.dup_x1, 1) := by decide +kernel
theorem dJx4a65c_grow_92f84_41 : decode cJx4a65c_grow_92f84 41 = .ok (.putfield 9, 3) := by decide +kernel
theorem dJx4a65c_grow_92f84_44 : decode cJx4a65c_grow_92f84 44 = .ok (.areturn, 1) := by decide +kernel
theorem dJx4a65c_grow_92f84_45 : decode cJx4a65c_grow_92f84 45 = .ok (.aload_n 0, 1) := by decide +kernel
theorem dJx4a65c_grow_92f84_46 : decode cJx4a65c_grow_92f84 46 = .ok (.bipush 10, 2) := by decide +kernel
theorem dJx4a65c_grow_92f84_48 : decode cJx4a65c_grow_92f84 48 = .ok (.iload_n 1, 1) := by decide +kernel
theorem dJx4a65c_grow_92f84_49 : decode cJx4a65c_grow_92f84 49 = .ok (.invokestatic 79, 3) := by decide +kernel
theorem dJx4a65c_grow_92f84_52 : decode cJx4a65c_grow_92f84 52 = .ok (.anewarray 7, 3) := by decide +kernel
theorem dJx4a65c_grow_92f84_55 : decode cJx4a65c_grow_92f84 55 = .ok (.dup_x1, 1) := by decide +kernel
theorem dJx4a65c_grow_92f84_56 : decode cJx4a65c_grow_92f84 56 = .ok (.putfield 9, 3) := by decide +kernel
theorem dJx4a65c_grow_92f84_59 : decode cJx4a65c_grow_92f84 59 = .ok (.areturn, 1) := by decide +kernel
theorem dJx4a65c_grow_d5877_0 : decode cJx4a65c_grow_d5877 0 = .ok (.aload_n 0, 1) := by decide +kernel
theorem dJx4a65c_grow_d5877_1 : decode cJx4a65c_grow_d5877 1 = .ok (.aload_n 0, 1) := by decide +kernel
theorem dJx4a65c_grow_d5877_2 : decode cJx4a65c_grow_d5877 2 = .ok (.getfield 48, 3) := by decide +kernel
theorem dJx4a65c_grow_d5877_5 : decode cJx4a65c_grow_d5877 5 = .ok (.iconst 1, 1) := by decide +kernel
theorem dJx4a65c_grow_d5877_6 : decode cJx4a65c_grow_d5877 6 = .ok (.iadd, 1) := by decide +kernel
theorem dJx4a65c_grow_d5877_7 : decode cJx4a65c_grow_d5877 7 = .ok (.invokevirtual 69, 3) := by decide +kernel
theorem dJx4a65c_grow_d5877_10 : decode cJx4a65c_grow_d5877 10 = .ok (.areturn, 1) := by decide +kernel
theorem dJx4a65c_size_8abf5_0 : decode cJx4a65c_size_8abf5 0 = .ok (.aload_n 0, 1) := by decide +kernel
theorem dJx4a65c_size_8abf5_1 : decode cJx4a65c_size_8abf5 1 = .ok (.getfield 48, 3) := by decide +kernel
theorem dJx4a65c_size_8abf5_4 : decode cJx4a65c_size_8abf5 4 = .ok (.ireturn, 1) := by decide +kernel
theorem dJx4a65c_elementData_915e3_0 : decode cJx4a65c_elementData_915e3 0 = .ok (.aload_n 0, 1) := by decide +kernel
theorem dJx4a65c_elementData_915e3_1 : decode cJx4a65c_elementData_915e3 1 = .ok (.getfield 9, 3) := by decide +kernel
theorem dJx4a65c_elementData_915e3_4 : decode cJx4a65c_elementData_915e3 4 = .ok (.iload_n 1, 1) := by decide +kernel
theorem dJx4a65c_elementData_915e3_5 : decode cJx4a65c_elementData_915e3 5 = .ok (.aaload, 1) := by decide +kernel
theorem dJx4a65c_elementData_915e3_6 : decode cJx4a65c_elementData_915e3 6 = .ok (.areturn, 1) := by decide +kernel
theorem dJx4a65c_get_915e3_0 : decode cJx4a65c_get_915e3 0 = .ok (.iload_n 1, 1) := by decide +kernel
theorem dJx4a65c_get_915e3_1 : decode cJx4a65c_get_915e3 1 = .ok (.aload_n 0, 1) := by decide +kernel
theorem dJx4a65c_get_915e3_2 : decode cJx4a65c_get_915e3 2 = .ok (.getfield 48, 3) := by decide +kernel
theorem dJx4a65c_get_915e3_5 : decode cJx4a65c_get_915e3 5 = .ok (.invokestatic 118, 3) := by decide +kernel
theorem dJx4a65c_get_915e3_8 : decode cJx4a65c_get_915e3 8 = .ok (.pop, 1) := by decide +kernel
theorem dJx4a65c_get_915e3_9 : decode cJx4a65c_get_915e3 9 = .ok (.aload_n 0, 1) := by decide +kernel
theorem dJx4a65c_get_915e3_10 : decode cJx4a65c_get_915e3 10 = .ok (.iload_n 1, 1) := by decide +kernel
theorem dJx4a65c_get_915e3_11 : decode cJx4a65c_get_915e3 11 = .ok (.invokevirtual 123, 3) := by decide +kernel
theorem dJx4a65c_get_915e3_14 : decode cJx4a65c_get_915e3 14 = .ok (.areturn, 1) := by decide +kernel
theorem dJx4a65c_add_72be8_0 : decode cJx4a65c_add_72be8 0 = .ok (.iload_n 3, 1) := by decide +kernel
theorem dJx4a65c_add_72be8_1 : decode cJx4a65c_add_72be8 1 = .ok (.aload_n 2, 1) := by decide +kernel
theorem dJx4a65c_add_72be8_2 : decode cJx4a65c_add_72be8 2 = .ok (.arraylength, 1) := by decide +kernel
theorem dJx4a65c_add_72be8_3 : decode cJx4a65c_add_72be8 3 = .ok (.if_icmp .ne 8, 3) := by decide +kernel
theorem dJx4a65c_add_72be8_6 : decode cJx4a65c_add_72be8 6 = .ok (.aload_n 0, 1) := by decide +kernel
theorem dJx4a65c_add_72be8_7 : decode cJx4a65c_add_72be8 7 = .ok (.invokevirtual 129, 3) := by decide +kernel
theorem dJx4a65c_add_72be8_10 : decode cJx4a65c_add_72be8 10 = .ok (.astore_n 2, 1) := by decide +kernel
theorem dJx4a65c_add_72be8_11 : decode cJx4a65c_add_72be8 11 = .ok (.aload_n 2, 1) := by decide +kernel
theorem dJx4a65c_add_72be8_12 : decode cJx4a65c_add_72be8 12 = .ok (.iload_n 3, 1) := by decide +kernel
theorem dJx4a65c_add_72be8_13 : decode cJx4a65c_add_72be8 13 = .ok (.aload_n 1, 1) := by decide +kernel
theorem dJx4a65c_add_72be8_14 : decode cJx4a65c_add_72be8 14 = .ok (.aastore, 1) := by decide +kernel
theorem dJx4a65c_add_72be8_15 : decode cJx4a65c_add_72be8 15 = .ok (.aload_n 0, 1) := by decide +kernel
theorem dJx4a65c_add_72be8_16 : decode cJx4a65c_add_72be8 16 = .ok (.iload_n 3, 1) := by decide +kernel
theorem dJx4a65c_add_72be8_17 : decode cJx4a65c_add_72be8 17 = .ok (.iconst 1, 1) := by decide +kernel
theorem dJx4a65c_add_72be8_18 : decode cJx4a65c_add_72be8 18 = .ok (.iadd, 1) := by decide +kernel
theorem dJx4a65c_add_72be8_19 : decode cJx4a65c_add_72be8 19 = .ok (.putfield 48, 3) := by decide +kernel
theorem dJx4a65c_add_72be8_22 : decode cJx4a65c_add_72be8 22 = .ok (.return_, 1) := by decide +kernel
theorem dJx4a65c_add_9ea2d_0 : decode cJx4a65c_add_9ea2d 0 = .ok (.aload_n 0, 1) := by decide +kernel
theorem dJx4a65c_add_9ea2d_1 : decode cJx4a65c_add_9ea2d 1 = .ok (.dup, 1) := by decide +kernel
theorem dJx4a65c_add_9ea2d_2 : decode cJx4a65c_add_9ea2d 2 = .ok (.getfield 63, 3) := by decide +kernel
theorem dJx4a65c_add_9ea2d_5 : decode cJx4a65c_add_9ea2d 5 = .ok (.iconst 1, 1) := by decide +kernel
theorem dJx4a65c_add_9ea2d_6 : decode cJx4a65c_add_9ea2d 6 = .ok (.iadd, 1) := by decide +kernel
theorem dJx4a65c_add_9ea2d_7 : decode cJx4a65c_add_9ea2d 7 = .ok (.putfield 63, 3) := by decide +kernel
theorem dJx4a65c_add_9ea2d_10 : decode cJx4a65c_add_9ea2d 10 = .ok (.aload_n 0, 1) := by decide +kernel
theorem dJx4a65c_add_9ea2d_11 : decode cJx4a65c_add_9ea2d 11 = .ok (.aload_n 1, 1) := by decide +kernel
theorem dJx4a65c_add_9ea2d_12 : decode cJx4a65c_add_9ea2d 12 = .ok (.aload_n 0, 1) := by decide +kernel
theorem dJx4a65c_add_9ea2d_13 : decode cJx4a65c_add_9ea2d 13 = .ok (.getfield 9, 3) := by decide +kernel
theorem dJx4a65c_add_9ea2d_16 : decode cJx4a65c_add_9ea2d 16 = .ok (.aload_n 0, 1) := by decide +kernel
theorem dJx4a65c_add_9ea2d_17 : decode cJx4a65c_add_9ea2d 17 = .ok (.getfield 48, 3) := by decide +kernel
theorem dJx4a65c_add_9ea2d_20 : decode cJx4a65c_add_9ea2d 20 = .ok (.invokevirtual 131, 3) := by decide +kernel
theorem dJx4a65c_add_9ea2d_23 : decode cJx4a65c_add_9ea2d 23 = .ok (.iconst 1, 1) := by decide +kernel
theorem dJx4a65c_add_9ea2d_24 : decode cJx4a65c_add_9ea2d 24 = .ok (.ireturn, 1) := by decide +kernel
theorem dJ7_fill_53178_0 : decode cJ7_fill_53178 0 = .ok (.iconst 0, 1) := by decide +kernel
theorem dJ7_fill_53178_1 : decode cJ7_fill_53178 1 = .ok (.istore_n 2, 1) := by decide +kernel
theorem dJ7_fill_53178_2 : decode cJ7_fill_53178 2 = .ok (.aload_n 0, 1) := by decide +kernel
theorem dJ7_fill_53178_3 : decode cJ7_fill_53178 3 = .ok (.arraylength, 1) := by decide +kernel
theorem dJ7_fill_53178_4 : decode cJ7_fill_53178 4 = .ok (.istore_n 3, 1) := by decide +kernel
theorem dJ7_fill_53178_5 : decode cJ7_fill_53178 5 = .ok (.iload_n 2, 1) := by decide +kernel
theorem dJ7_fill_53178_6 : decode cJ7_fill_53178 6 = .ok (.iload_n 3, 1) := by decide +kernel
theorem dJ7_fill_53178_7 : decode cJ7_fill_53178 7 = .ok (.if_icmp .ge 13, 3) := by decide +kernel
theorem dJ7_fill_53178_10 : decode cJ7_fill_53178 10 = .ok (.aload_n 0, 1) := by decide +kernel
theorem dJ7_fill_53178_11 : decode cJ7_fill_53178 11 = .ok (.iload_n 2, 1) := by decide +kernel
theorem dJ7_fill_53178_12 : decode cJ7_fill_53178 12 = .ok (.iload_n 1, 1) := by decide +kernel
theorem dJ7_fill_53178_13 : decode cJ7_fill_53178 13 = .ok (.iastore, 1) := by decide +kernel
theorem dJ7_fill_53178_14 : decode cJ7_fill_53178 14 = .ok (.iinc 2 1, 3) := by decide +kernel
theorem dJ7_fill_53178_17 : decode cJ7_fill_53178 17 = .ok (.goto (-12), 3) := by decide +kernel
theorem dJ7_fill_53178_20 : decode cJ7_fill_53178 20 = .ok (.return_, 1) := by decide +kernel
theorem dJ7_copyOf_1904c_0 : decode cJ7_copyOf_1904c 0 = .ok (.aload_n 0, 1) := by decide +kernel
theorem dJ7_copyOf_1904c_1 : decode cJ7_copyOf_1904c 1 = .ok (.iload_n 1, 1) := by decide +kernel
theorem dJ7_copyOf_1904c_2 : decode cJ7_copyOf_1904c 2 = .ok (.aload_n 0, 1) := by decide +kernel
theorem dJ7_copyOf_1904c_3 : decode cJ7_copyOf_1904c 3 = .ok (.invokevirtual 86, 3) := by decide +kernel
theorem dJ7_copyOf_1904c_6 : decode cJ7_copyOf_1904c 6 = .ok (.invokestatic 300, 3) := by decide +kernel
theorem dJ7_copyOf_1904c_9 : decode cJ7_copyOf_1904c 9 = .ok (.areturn, 1) := by decide +kernel
theorem dJ7_copyOf_6403c_0 : decode cJ7_copyOf_6403c 0 = .ok (.aload_n 2, 1) := by decide +kernel
theorem dJ7_copyOf_6403c_1 : decode cJ7_copyOf_6403c 1 = .ok (.ldc 110, 2) := by decide +kernel
theorem dJ7_copyOf_6403c_3 : decode cJ7_copyOf_6403c 3 = .ok (.if_acmp .ne 10, 3) := by decide +kernel
theorem dJ7_copyOf_6403c_6 : decode cJ7_copyOf_6403c 6 = .ok (.iload_n 1, 1) := by decide +kernel
theorem dJ7_copyOf_6403c_7 : decode cJ7_copyOf_6403c 7 = .ok (.anewarray 2, 3) := by decide +kernel
theorem dJ7_copyOf_6403c_10 : decode cJ7_copyOf_6403c 10 = .ok (.goto 14, 3) := by decide +kernel
theorem dJ7_copyOf_6403c_13 : decode cJ7_copyOf_6403c 13 = .ok (.aload_n 2, 1) := by decide +kernel
theorem dJ7_copyOf_6403c_14 : decode cJ7_copyOf_6403c 14 = .ok (.invokevirtual 90, 3) := by decide +kernel
theorem dJ7_copyOf_6403c_17 : decode cJ7_copyOf_6403c 17 = .ok (.iload_n 1, 1) := by decide +kernel
theorem dJ7_copyOf_6403c_18 : decode cJ7_copyOf_6403c 18 = .ok (.invokestatic 95, 3) := by decide +kernel
theorem dJ7_copyOf_6403c_21 : decode cJ7_copyOf_6403c 21 = .ok (.checkcast 110, 3) := by decide +kernel
theorem dJ7_copyOf_6403c_24 : decode cJ7_copyOf_6403c 24 = .ok (.astore_n 3, 1) := by decide +kernel
theorem dJ7_copyOf_6403c_25 : decode cJ7_copyOf_6403c 25 = .ok (.aload_n 0, 1) := by decide +kernel
theorem dJ7_copyOf_6403c_26 : decode cJ7_copyOf_6403c 26 = .ok (.iconst 0, 1) := by decide +kernel
theorem dJ7_copyOf_6403c_27 : decode cJ7_copyOf_6403c 27 = .ok (.aload_n 3, 1) := by decide +kernel
theorem dJ7_copyOf_6403c_28 : decode cJ7_copyOf_6403c 28 = .ok (.iconst 0, 1) := by decide +kernel
theorem dJ7_copyOf_6403c_29 : decode cJ7_copyOf_6403c 29 = .ok (.aload_n 0, 1) := by decide +kernel
theorem dJ7_copyOf_6403c_30 : decode cJ7_copyOf_6403c 30 = .ok (.arraylength, 1) := by decide +kernel
theorem dJ7_copyOf_6403c_31 : decode cJ7_copyOf_6403c 31 = .ok (.iload_n 1, 1) := by decide +kernel
theorem dJ7_copyOf_6403c_32 : decode cJ7_copyOf_6403c 32 = .ok (.invokestatic 304, 3) := by decide +kernel
theorem dJ7_copyOf_6403c_35 : decode cJ7_copyOf_6403c 35 = .ok (.invokestatic 150, 3) := by decide +kernel
theorem dJ7_copyOf_6403c_38 : decode cJ7_copyOf_6403c 38 = .ok (.aload_n 3, 1) := by decide +kernel
theorem dJ7_copyOf_6403c_39 : decode cJ7_copyOf_6403c 39 = .ok (.areturn, 1) := by decide +kernel
theorem dJ7_copyOf_59c91_0 : decode cJ7_copyOf_59c91 0 = .ok (.iload_n 1, 1) := by decide +kernel
theorem dJ7_copyOf_59c91_1 : decode cJ7_copyOf_59c91 1 = .ok (.aload_n 0, 1) := by decide +kernel
theorem dJ7_copyOf_59c91_2 : decode cJ7_copyOf_59c91 2 = .ok (.arraylength, 1) := by decide +kernel
theorem dJ7_copyOf_59c91_3 : decode cJ7_copyOf_59c91 3 = .ok (.if_icmp .ne 11, 3) := by decide +kernel
theorem dJ7_copyOf_59c91_6 : decode cJ7_copyOf_59c91 6 = .ok (.aload_n 0, 1) := by decide +kernel
theorem dJ7_copyOf_59c91_7 : decode cJ7_copyOf_59c91 7 = .ok (.invokevirtual 316, 3) := by decide +kernel
theorem dJ7_copyOf_59c91_10 : decode cJ7_copyOf_59c91 10 = .ok (.checkcast 317, 3) := by decide +kernel
theorem dJ7_copyOf_59c91_13 : decode cJ7_copyOf_59c91 13 = .ok (.areturn, 1) := by decide +kernel
theorem dJ7_copyOf_59c91_14 : decode cJ7_copyOf_59c91 14 = .ok (.iload_n 1, 1) := by decide +kernel
theorem dJ7_copyOf_59c91_15 : decode cJ7_copyOf_59c91 15 = .ok (.newarray .int, 2) := by decide +kernel
theorem dJ7_copyOf_59c91_17 : decode cJ7_copyOf_59c91 17 = .ok (.astore_n 2, 1) := by decide +kernel
theorem dJ7_copyOf_59c91_18 : decode cJ7_copyOf_59c91 18 = .ok (.aload_n 0, 1) := by decide +kernel
theorem dJ7_copyOf_59c91_19 : decode cJ7_copyOf_59c91 19 = .ok (.iconst 0, 1) := by decide +kernel
theorem dJ7_copyOf_59c91_20 : decode cJ7_copyOf_59c91 20 = .ok (.aload_n 2, 1) := by decide +kernel
theorem dJ7_copyOf_59c91_21 : decode cJ7_copyOf_59c91 21 = .ok (.iconst 0, 1) := by decide +kernel
theorem dJ7_copyOf_59c91_22 : decode cJ7_copyOf_59c91 22 = .ok (.aload_n 0, 1) := by decide +kernel
theorem dJ7_copyOf_59c91_23 : decode cJ7_copyOf_59c91 23 = .ok (.arraylength, 1) := by decide +kernel
theorem dJ7_copyOf_59c91_24 : decode cJ7_copyOf_59c91 24 = .ok (.iload_n 1, 1) := by decide +kernel
theorem dJ7_copyOf_59c91_25 : decode cJ7_copyOf_59c91 25 = .ok (.invokestatic 304, 3) := by decide +kernel
theorem dJ7_copyOf_59c91_28 : decode cJ7_copyOf_59c91 28 = .ok (.invokestatic 150, 3) := by decide +kernel
theorem dJ7_copyOf_59c91_31 : decode cJ7_copyOf_59c91 31 = .ok (.aload_n 2, 1) := by decide +kernel
theorem dJ7_copyOf_59c91_32 : decode cJ7_copyOf_59c91 32 = .ok (.areturn, 1) := by decide +kernel
theorem dJ15_checkIndex_7cf53_0 : decode cJ15_checkIndex_7cf53 0 = .ok (.iload_n 0, 1) := by decide +kernel
theorem dJ15_checkIndex_7cf53_1 : decode cJ15_checkIndex_7cf53 1 = .ok (.iload_n 1, 1) := by decide +kernel
theorem dJ15_checkIndex_7cf53_2 : decode cJ15_checkIndex_7cf53 2 = .ok (.aconst_null, 1) := by decide +kernel
theorem dJ15_checkIndex_7cf53_3 : decode cJ15_checkIndex_7cf53 3 = .ok (.invokestatic 105, 3) := by decide +kernel
theorem dJ15_checkIndex_7cf53_6 : decode cJ15_checkIndex_7cf53 6 = .ok (.ireturn, 1) := by decide +kernel
theorem dJ8_newLength_cabcc_0 : decode cJ8_newLength_cabcc 0 = .ok (.iload_n 0, 1) := by decide +kernel
theorem dJ8_newLength_cabcc_1 : decode cJ8_newLength_cabcc 1 = .ok (.iload_n 1, 1) := by decide +kernel
theorem dJ8_newLength_cabcc_2 : decode cJ8_newLength_cabcc 2 = .ok (.iload_n 2, 1) := by decide +kernel
theorem dJ8_newLength_cabcc_3 : decode cJ8_newLength_cabcc 3 = .ok (.invokestatic 194, 3) := by decide +kernel
theorem dJ8_newLength_cabcc_6 : decode cJ8_newLength_cabcc 6 = .ok (.iadd, 1) := by decide +kernel
theorem dJ8_newLength_cabcc_7 : decode cJ8_newLength_cabcc 7 = .ok (.istore_n 3, 1) := by decide +kernel
theorem dJ8_newLength_cabcc_8 : decode cJ8_newLength_cabcc 8 = .ok (.iconst 0, 1) := by decide +kernel
theorem dJ8_newLength_cabcc_9 : decode cJ8_newLength_cabcc 9 = .ok (.iload_n 3, 1) := by decide +kernel
theorem dJ8_newLength_cabcc_10 : decode cJ8_newLength_cabcc 10 = .ok (.if_icmp .ge 11, 3) := by decide +kernel
theorem dJ8_newLength_cabcc_13 : decode cJ8_newLength_cabcc 13 = .ok (.iload_n 3, 1) := by decide +kernel
theorem dJ8_newLength_cabcc_14 : decode cJ8_newLength_cabcc 14 = .ok (.ldc 200, 2) := by decide +kernel
theorem dJ8_newLength_cabcc_16 : decode cJ8_newLength_cabcc 16 = .ok (.if_icmp .gt 5, 3) := by decide +kernel
theorem dJ8_newLength_cabcc_19 : decode cJ8_newLength_cabcc 19 = .ok (.iload_n 3, 1) := by decide +kernel
theorem dJ8_newLength_cabcc_20 : decode cJ8_newLength_cabcc 20 = .ok (.ireturn, 1) := by decide +kernel
theorem dJ8_newLength_cabcc_21 : decode cJ8_newLength_cabcc 21 = .ok (.iload_n 0, 1) := by decide +kernel
theorem dJ8_newLength_cabcc_22 : decode cJ8_newLength_cabcc 22 = .ok (.iload_n 1, 1) := by decide +kernel
theorem dJ8_newLength_cabcc_23 : decode cJ8_newLength_cabcc 23 = .ok (.invokestatic 201, 3) := by decide +kernel
theorem dJ8_newLength_cabcc_26 : decode cJ8_newLength_cabcc 26 = .ok (.ireturn, 1) := by decide +kernel
theorem dJ8_hugeLength_7cf53_0 : decode cJ8_hugeLength_7cf53 0 = .ok (.iload_n 0, 1) := by decide +kernel
theorem dJ8_hugeLength_7cf53_1 : decode cJ8_hugeLength_7cf53 1 = .ok (.iload_n 1, 1) := by decide +kernel
theorem dJ8_hugeLength_7cf53_2 : decode cJ8_hugeLength_7cf53 2 = .ok (.iadd, 1) := by decide +kernel
theorem dJ8_hugeLength_7cf53_3 : decode cJ8_hugeLength_7cf53 3 = .ok (.istore_n 2, 1) := by decide +kernel
theorem dJ8_hugeLength_7cf53_4 : decode cJ8_hugeLength_7cf53 4 = .ok (.iload_n 2, 1) := by decide +kernel
theorem dJ8_hugeLength_7cf53_5 : decode cJ8_hugeLength_7cf53 5 = .ok (.ifCond .ge 44, 3) := by decide +kernel
theorem dJ8_hugeLength_7cf53_8 : decode cJ8_hugeLength_7cf53 8 = .ok (.new 204, 3) := by decide +kernel
theorem dJ8_hugeLength_7cf53_11 : decode cJ8_hugeLength_7cf53 11 = .ok (.dup, 1) := by decide +kernel
theorem dJ8_hugeLength_7cf53_12 : decode cJ8_hugeLength_7cf53 12 = .ok (.new 89, 3) := by decide +kernel
theorem dJ8_hugeLength_7cf53_15 : decode cJ8_hugeLength_7cf53 15 = .ok (.dup, 1) := by decide +kernel
theorem dJ8_hugeLength_7cf53_16 : decode cJ8_hugeLength_7cf53 16 = .ok (.invokespecial 91, 3) := by decide +kernel
theorem dJ8_hugeLength_7cf53_19 : decode cJ8_hugeLength_7cf53 19 = .ok (.ldc 206, 2) := by decide +kernel
theorem dJ8_hugeLength_7cf53_21 : decode cJ8_hugeLength_7cf53 21 = .ok (.invokevirtual 94, 3) := by decide +kernel
theorem dJ8_hugeLength_7cf53_24 : decode cJ8_hugeLength_7cf53 24 = .ok (.iload_n 0, 1) := by decide +kernel
theorem dJ8_hugeLength_7cf53_25 : decode cJ8_hugeLength_7cf53 25 = .ok (.invokevirtual 98, 3) := by decide +kernel
theorem dJ8_hugeLength_7cf53_28 : decode cJ8_hugeLength_7cf53 28 = .ok (.ldc 208, 2) := by decide +kernel
theorem dJ8_hugeLength_7cf53_30 : decode cJ8_hugeLength_7cf53 30 = .ok (.invokevirtual 94, 3) := by decide +kernel
theorem dJ8_hugeLength_7cf53_33 : decode cJ8_hugeLength_7cf53 33 = .ok (.iload_n 1, 1) := by decide +kernel
theorem dJ8_hugeLength_7cf53_34 : decode cJ8_hugeLength_7cf53 34 = .ok (.invokevirtual 98, 3) := by decide +kernel
theorem dJ8_hugeLength_7cf53_37 : decode cJ8_hugeLength_7cf53 37 = .ok (.ldc 210, 2) := by decide +kernel
theorem dJ8_hugeLength_7cf53_39 : decode cJ8_hugeLength_7cf53 39 = .ok (.invokevirtual 94, 3) := by decide +kernel
theorem dJ8_hugeLength_7cf53_42 : decode cJ8_hugeLength_7cf53 42 = .ok (.invokevirtual 101, 3) := by decide +kernel
theorem dJ8_hugeLength_7cf53_45 : decode cJ8_hugeLength_7cf53 45 = .ok (.invokespecial 212, 3) := by decide +kernel
theorem dJ8_hugeLength_7cf53_48 : decode cJ8_hugeLength_7cf53 48 = .ok (.athrow, 1) := by decide +kernel
theorem dJ8_hugeLength_7cf53_49 : decode cJ8_hugeLength_7cf53 49 = .ok (.iload_n 2, 1) := by decide +kernel
theorem dJ8_hugeLength_7cf53_50 : decode cJ8_hugeLength_7cf53 50 = .ok (.ldc 200, 2) := by decide +kernel
theorem dJ8_hugeLength_7cf53_52 : decode cJ8_hugeLength_7cf53 52 = .ok (.if_icmp .gt 6, 3) := by decide +kernel
theorem dJ8_hugeLength_7cf53_55 : decode cJ8_hugeLength_7cf53 55 = .ok (.ldc 200, 2) := by decide +kernel
theorem dJ8_hugeLength_7cf53_57 : decode cJ8_hugeLength_7cf53 57 = .ok (.ireturn, 1) := by decide +kernel
theorem dJ8_hugeLength_7cf53_58 : decode cJ8_hugeLength_7cf53 58 = .ok (.iload_n 2, 1) := by decide +kernel
theorem dJ8_hugeLength_7cf53_59 : decode cJ8_hugeLength_7cf53 59 = .ok (.ireturn, 1) := by decide +kernel
theorem dJ3_checkIndex_8e157_0 : decode cJ3_checkIndex_8e157 0 = .ok (.iload_n 0, 1) := by decide +kernel
theorem dJ3_checkIndex_8e157_1 : decode cJ3_checkIndex_8e157 1 = .ok (.ifCond .lt 8, 3) := by decide +kernel
theorem dJ3_checkIndex_8e157_4 : decode cJ3_checkIndex_8e157 4 = .ok (.iload_n 0, 1) := by decide +kernel
theorem dJ3_checkIndex_8e157_5 : decode cJ3_checkIndex_8e157 5 = .ok (.iload_n 1, 1) := by decide +kernel
theorem dJ3_checkIndex_8e157_6 : decode cJ3_checkIndex_8e157 6 = .ok (.if_icmp .lt 10, 3) := by decide +kernel
theorem dJ3_checkIndex_8e157_9 : decode cJ3_checkIndex_8e157 9 = .ok (.aload_n 2, 1) := by decide +kernel
theorem dJ3_checkIndex_8e157_10 : decode cJ3_checkIndex_8e157 10 = .ok (.iload_n 0, 1) := by decide +kernel
theorem dJ3_checkIndex_8e157_11 : decode cJ3_checkIndex_8e157 11 = .ok (.iload_n 1, 1) := by decide +kernel
theorem dJ3_checkIndex_8e157_12 : decode cJ3_checkIndex_8e157 12 = .ok (.invokestatic 95, 3) := by decide +kernel
theorem dJ3_checkIndex_8e157_15 : decode cJ3_checkIndex_8e157 15 = .ok (.athrow, 1) := by decide +kernel
theorem dJ3_checkIndex_8e157_16 : decode cJ3_checkIndex_8e157 16 = .ok (.iload_n 0, 1) := by decide +kernel
theorem dJ3_checkIndex_8e157_17 : decode cJ3_checkIndex_8e157 17 = .ok (.ireturn, 1) := by decide +kernel
theorem dL_phase_0 : decode cL_phase 0 = .ok (.aload_n 2, 1) := by decide +kernel
theorem dL_phase_1 : decode cL_phase 1 = .ok (.iconst 0, 1) := by decide +kernel
theorem dL_phase_2 : decode cL_phase 2 = .ok (.aload_n 0, 1) := by decide +kernel
theorem dL_phase_3 : decode cL_phase 3 = .ok (.iload_n 1, 1) := by decide +kernel
theorem dL_phase_4 : decode cL_phase 4 = .ok (.invokevirtual 7, 3) := by decide +kernel
theorem dL_phase_7 : decode cL_phase 7 = .ok (.i2l, 1) := by decide +kernel
theorem dL_phase_8 : decode cL_phase 8 = .ok (.lastore, 1) := by decide +kernel
theorem dL_phase_9 : decode cL_phase 9 = .ok (.goto 9, 3) := by decide +kernel
theorem dL_phase_12 : decode cL_phase 12 = .ok (.astore_n 3, 1) := by decide +kernel
theorem dL_phase_13 : decode cL_phase 13 = .ok (.iconst 1, 1) := by decide +kernel
theorem dL_phase_14 : decode cL_phase 14 = .ok (.ireturn, 1) := by decide +kernel
theorem dL_phase_15 : decode cL_phase 15 = .ok (.astore_n 3, 1) := by decide +kernel
theorem dL_phase_16 : decode cL_phase 16 = .ok (.iconst 2, 1) := by decide +kernel
theorem dL_phase_17 : decode cL_phase 17 = .ok (.ireturn, 1) := by decide +kernel
theorem dL_phase_18 : decode cL_phase 18 = .ok (.iconst 0, 1) := by decide +kernel
theorem dL_phase_19 : decode cL_phase 19 = .ok (.ireturn, 1) := by decide +kernel
theorem dL_pattern_0 : decode cL_pattern 0 = .ok (.aload_n 1, 1) := by decide +kernel
theorem dL_pattern_1 : decode cL_pattern 1 = .ok (.iconst 0, 1) := by decide +kernel
theorem dL_pattern_2 : decode cL_pattern 2 = .ok (.aload_n 0, 1) := by decide +kernel
theorem dL_pattern_3 : decode cL_pattern 3 = .ok (.invokevirtual 17, 3) := by decide +kernel
theorem dL_pattern_6 : decode cL_pattern 6 = .ok (.i2l, 1) := by decide +kernel
theorem dL_pattern_7 : decode cL_pattern 7 = .ok (.lastore, 1) := by decide +kernel
theorem dL_pattern_8 : decode cL_pattern 8 = .ok (.goto 6, 3) := by decide +kernel
theorem dL_pattern_11 : decode cL_pattern 11 = .ok (.astore_n 2, 1) := by decide +kernel
theorem dL_pattern_12 : decode cL_pattern 12 = .ok (.iconst 1, 1) := by decide +kernel
theorem dL_pattern_13 : decode cL_pattern 13 = .ok (.ireturn, 1) := by decide +kernel
theorem dL_pattern_14 : decode cL_pattern 14 = .ok (.iconst 0, 1) := by decide +kernel
theorem dL_pattern_15 : decode cL_pattern 15 = .ok (.ireturn, 1) := by decide +kernel
theorem dL_period_0 : decode cL_period 0 = .ok (.aload_n 2, 1) := by decide +kernel
theorem dL_period_1 : decode cL_period 1 = .ok (.iconst 0, 1) := by decide +kernel
theorem dL_period_2 : decode cL_period 2 = .ok (.aload_n 0, 1) := by decide +kernel
theorem dL_period_3 : decode cL_period 3 = .ok (.iload_n 1, 1) := by decide +kernel
theorem dL_period_4 : decode cL_period 4 = .ok (.invokevirtual 21, 3) := by decide +kernel
theorem dL_period_7 : decode cL_period 7 = .ok (.i2l, 1) := by decide +kernel
theorem dL_period_8 : decode cL_period 8 = .ok (.lastore, 1) := by decide +kernel
theorem dL_period_9 : decode cL_period 9 = .ok (.goto 6, 3) := by decide +kernel
theorem dL_period_12 : decode cL_period 12 = .ok (.astore_n 3, 1) := by decide +kernel
theorem dL_period_13 : decode cL_period 13 = .ok (.iconst 1, 1) := by decide +kernel
theorem dL_period_14 : decode cL_period 14 = .ok (.ireturn, 1) := by decide +kernel
theorem dL_period_15 : decode cL_period 15 = .ok (.iconst 0, 1) := by decide +kernel
theorem dL_period_16 : decode cL_period 16 = .ok (.ireturn, 1) := by decide +kernel
theorem dL_areAlike_0 : decode cL_areAlike 0 = .ok (.aload_n 3, 1) := by decide +kernel
theorem dL_areAlike_1 : decode cL_areAlike 1 = .ok (.iconst 0, 1) := by decide +kernel
theorem dL_areAlike_2 : decode cL_areAlike 2 = .ok (.aload_n 0, 1) := by decide +kernel
theorem dL_areAlike_3 : decode cL_areAlike 3 = .ok (.iload_n 1, 1) := by decide +kernel
theorem dL_areAlike_4 : decode cL_areAlike 4 = .ok (.iload_n 2, 1) := by decide +kernel
theorem dL_areAlike_5 : decode cL_areAlike 5 = .ok (.invokevirtual 26, 3) := by decide +kernel
theorem dL_areAlike_8 : decode cL_areAlike 8 = .ok (.ifCond .eq 7, 3) := by decide +kernel
theorem dL_areAlike_11 : decode cL_areAlike 11 = .ok (.lconst 1, 1) := by decide +kernel
theorem dL_areAlike_12 : decode cL_areAlike 12 = .ok (.goto 4, 3) := by decide +kernel
theorem dL_areAlike_15 : decode cL_areAlike 15 = .ok (.lconst 0, 1) := by decide +kernel
theorem dL_areAlike_16 : decode cL_areAlike 16 = .ok (.lastore, 1) := by decide +kernel
theorem dL_areAlike_17 : decode cL_areAlike 17 = .ok (.goto 7, 3) := by decide +kernel
theorem dL_areAlike_20 : decode cL_areAlike 20 = .ok (.astore 4, 2) := by decide +kernel
theorem dL_areAlike_22 : decode cL_areAlike 22 = .ok (.iconst 1, 1) := by decide +kernel
theorem dL_areAlike_23 : decode cL_areAlike 23 = .ok (.ireturn, 1) := by decide +kernel
theorem dL_areAlike_24 : decode cL_areAlike 24 = .ok (.iconst 0, 1) := by decide +kernel
theorem dL_areAlike_25 : decode cL_areAlike 25 = .ok (.ireturn, 1) := by decide +kernel
theorem dL_areAlikeBySeconds_0 : decode cL_areAlikeBySeconds 0 = .ok (.aload_n 3, 1) := by decide +kernel
theorem dL_areAlikeBySeconds_1 : decode cL_areAlikeBySeconds 1 = .ok (.iconst 0, 1) := by decide +kernel
theorem dL_areAlikeBySeconds_2 : decode cL_areAlikeBySeconds 2 = .ok (.aload_n 0, 1) := by decide +kernel
theorem dL_areAlikeBySeconds_3 : decode cL_areAlikeBySeconds 3 = .ok (.iload_n 1, 1) := by decide +kernel
theorem dL_areAlikeBySeconds_4 : decode cL_areAlikeBySeconds 4 = .ok (.iload_n 2, 1) := by decide +kernel
theorem dL_areAlikeBySeconds_5 : decode cL_areAlikeBySeconds 5 = .ok (.invokevirtual 30, 3) := by decide +kernel
theorem dL_areAlikeBySeconds_8 : decode cL_areAlikeBySeconds 8 = .ok (.ifCond .eq 7, 3) := by decide +kernel
theorem dL_areAlikeBySeconds_11 : decode cL_areAlikeBySeconds 11 = .ok (.lconst 1, 1) := by decide +kernel
theorem dL_areAlikeBySeconds_12 : decode cL_areAlikeBySeconds 12 = .ok (.goto 4, 3) := by decide +kernel
theorem dL_areAlikeBySeconds_15 : decode cL_areAlikeBySeconds 15 = .ok (.lconst 0, 1) := by decide +kernel
theorem dL_areAlikeBySeconds_16 : decode cL_areAlikeBySeconds 16 = .ok (.lastore, 1) := by decide +kernel
theorem dL_areAlikeBySeconds_17 : decode cL_areAlikeBySeconds 17 = .ok (.goto 7, 3) := by decide +kernel
theorem dL_areAlikeBySeconds_20 : decode cL_areAlikeBySeconds 20 = .ok (.astore 4, 2) := by decide +kernel
theorem dL_areAlikeBySeconds_22 : decode cL_areAlikeBySeconds 22 = .ok (.iconst 1, 1) := by decide +kernel
theorem dL_areAlikeBySeconds_23 : decode cL_areAlikeBySeconds 23 = .ok (.ireturn, 1) := by decide +kernel
theorem dL_areAlikeBySeconds_24 : decode cL_areAlikeBySeconds 24 = .ok (.iconst 0, 1) := by decide +kernel
theorem dL_areAlikeBySeconds_25 : decode cL_areAlikeBySeconds 25 = .ok (.ireturn, 1) := by decide +kernel
theorem dL_lamp_0 : decode cL_lamp 0 = .ok (.aload 6, 2) := by decide +kernel
theorem dL_lamp_2 : decode cL_lamp 2 = .ok (.iconst 0, 1) := by decide +kernel
theorem dL_lamp_3 : decode cL_lamp 3 = .ok (.aload_n 0, 1) := by decide +kernel
theorem dL_lamp_4 : decode cL_lamp 4 = .ok (.iload_n 1, 1) := by decide +kernel
theorem dL_lamp_5 : decode cL_lamp 5 = .ok (.iload_n 2, 1) := by decide +kernel
theorem dL_lamp_6 : decode cL_lamp 6 = .ok (.iload_n 3, 1) := by decide +kernel
theorem dL_lamp_7 : decode cL_lamp 7 = .ok (.iload 4, 2) := by decide +kernel
theorem dL_lamp_9 : decode cL_lamp 9 = .ok (.iload 5, 2) := by decide +kernel
theorem dL_lamp_11 : decode cL_lamp 11 = .ok (.invokevirtual 33, 3) := by decide +kernel
theorem dL_lamp_14 : decode cL_lamp 14 = .ok (.i2l, 1) := by decide +kernel
theorem dL_lamp_15 : decode cL_lamp 15 = .ok (.lastore, 1) := by decide +kernel
theorem dL_lamp_16 : decode cL_lamp 16 = .ok (.goto 15, 3) := by decide +kernel
theorem dL_lamp_19 : decode cL_lamp 19 = .ok (.astore 7, 2) := by decide +kernel
theorem dL_lamp_21 : decode cL_lamp 21 = .ok (.iconst 1, 1) := by decide +kernel
theorem dL_lamp_22 : decode cL_lamp 22 = .ok (.ireturn, 1) := by decide +kernel
theorem dL_lamp_23 : decode cL_lamp 23 = .ok (.astore 7, 2) := by decide +kernel
theorem dL_lamp_25 : decode cL_lamp 25 = .ok (.iconst 2, 1) := by decide +kernel
theorem dL_lamp_26 : decode cL_lamp 26 = .ok (.ireturn, 1) := by decide +kernel
theorem dL_lamp_27 : decode cL_lamp 27 = .ok (.astore 7, 2) := by decide +kernel
theorem dL_lamp_29 : decode cL_lamp 29 = .ok (.iconst 3, 1) := by decide +kernel
theorem dL_lamp_30 : decode cL_lamp 30 = .ok (.ireturn, 1) := by decide +kernel
theorem dL_lamp_31 : decode cL_lamp 31 = .ok (.iconst 0, 1) := by decide +kernel
theorem dL_lamp_32 : decode cL_lamp 32 = .ok (.ireturn, 1) := by decide +kernel
theorem dL_change_0 : decode cL_change 0 = .ok (.aload 4, 2) := by decide +kernel
theorem dL_change_2 : decode cL_change 2 = .ok (.iconst 0, 1) := by decide +kernel
theorem dL_change_3 : decode cL_change 3 = .ok (.aload_n 0, 1) := by decide +kernel
theorem dL_change_4 : decode cL_change 4 = .ok (.iload_n 1, 1) := by decide +kernel
theorem dL_change_5 : decode cL_change 5 = .ok (.iload_n 2, 1) := by decide +kernel
theorem dL_change_6 : decode cL_change 6 = .ok (.iload_n 3, 1) := by decide +kernel
theorem dL_change_7 : decode cL_change 7 = .ok (.invokevirtual 37, 3) := by decide +kernel
theorem dL_change_10 : decode cL_change 10 = .ok (.i2l, 1) := by decide +kernel
theorem dL_change_11 : decode cL_change 11 = .ok (.lastore, 1) := by decide +kernel
theorem dL_change_12 : decode cL_change 12 = .ok (.goto 11, 3) := by decide +kernel
theorem dL_change_15 : decode cL_change 15 = .ok (.astore 5, 2) := by decide +kernel
theorem dL_change_17 : decode cL_change 17 = .ok (.iconst 1, 1) := by decide +kernel
theorem dL_change_18 : decode cL_change 18 = .ok (.ireturn, 1) := by decide +kernel
theorem dL_change_19 : decode cL_change 19 = .ok (.astore 5, 2) := by decide +kernel
theorem dL_change_21 : decode cL_change 21 = .ok (.iconst 2, 1) := by decide +kernel
theorem dL_change_22 : decode cL_change 22 = .ok (.ireturn, 1) := by decide +kernel
theorem dL_change_23 : decode cL_change 23 = .ok (.iconst 0, 1) := by decide +kernel
theorem dL_change_24 : decode cL_change 24 = .ok (.ireturn, 1) := by decide +kernel
theorem dL_fail_0 : decode cL_fail 0 = .ok (.aload_n 3, 1) := by decide +kernel
theorem dL_fail_1 : decode cL_fail 1 = .ok (.iconst 0, 1) := by decide +kernel
theorem dL_fail_2 : decode cL_fail 2 = .ok (.aload_n 0, 1) := by decide +kernel
theorem dL_fail_3 : decode cL_fail 3 = .ok (.iload_n 1, 1) := by decide +kernel
theorem dL_fail_4 : decode cL_fail 4 = .ok (.iload_n 2, 1) := by decide +kernel
theorem dL_fail_5 : decode cL_fail 5 = .ok (.invokevirtual 41, 3) := by decide +kernel
theorem dL_fail_8 : decode cL_fail 8 = .ok (.i2l, 1) := by decide +kernel
theorem dL_fail_9 : decode cL_fail 9 = .ok (.lastore, 1) := by decide +kernel
theorem dL_fail_10 : decode cL_fail 10 = .ok (.goto 11, 3) := by decide +kernel
theorem dL_fail_13 : decode cL_fail 13 = .ok (.astore 4, 2) := by decide +kernel
theorem dL_fail_15 : decode cL_fail 15 = .ok (.iconst 1, 1) := by decide +kernel
theorem dL_fail_16 : decode cL_fail 16 = .ok (.ireturn, 1) := by decide +kernel
theorem dL_fail_17 : decode cL_fail 17 = .ok (.astore 4, 2) := by decide +kernel
theorem dL_fail_19 : decode cL_fail 19 = .ok (.iconst 2, 1) := by decide +kernel
theorem dL_fail_20 : decode cL_fail 20 = .ok (.ireturn, 1) := by decide +kernel
theorem dL_fail_21 : decode cL_fail 21 = .ok (.iconst 0, 1) := by decide +kernel
theorem dL_fail_22 : decode cL_fail 22 = .ok (.ireturn, 1) := by decide +kernel
theorem dL_shines_0 : decode cL_shines 0 = .ok (.aload_n 3, 1) := by decide +kernel
theorem dL_shines_1 : decode cL_shines 1 = .ok (.iconst 0, 1) := by decide +kernel
theorem dL_shines_2 : decode cL_shines 2 = .ok (.aload_n 0, 1) := by decide +kernel
theorem dL_shines_3 : decode cL_shines 3 = .ok (.iload_n 1, 1) := by decide +kernel
theorem dL_shines_4 : decode cL_shines 4 = .ok (.iload_n 2, 1) := by decide +kernel
theorem dL_shines_5 : decode cL_shines 5 = .ok (.invokevirtual 45, 3) := by decide +kernel
theorem dL_shines_8 : decode cL_shines 8 = .ok (.ifCond .eq 7, 3) := by decide +kernel
theorem dL_shines_11 : decode cL_shines 11 = .ok (.lconst 1, 1) := by decide +kernel
theorem dL_shines_12 : decode cL_shines 12 = .ok (.goto 4, 3) := by decide +kernel
theorem dL_shines_15 : decode cL_shines 15 = .ok (.lconst 0, 1) := by decide +kernel
theorem dL_shines_16 : decode cL_shines 16 = .ok (.lastore, 1) := by decide +kernel
theorem dL_shines_17 : decode cL_shines 17 = .ok (.goto 11, 3) := by decide +kernel
theorem dL_shines_20 : decode cL_shines 20 = .ok (.astore 4, 2) := by decide +kernel
theorem dL_shines_22 : decode cL_shines 22 = .ok (.iconst 1, 1) := by decide +kernel
theorem dL_shines_23 : decode cL_shines 23 = .ok (.ireturn, 1) := by decide +kernel
theorem dL_shines_24 : decode cL_shines 24 = .ok (.astore 4, 2) := by decide +kernel
theorem dL_shines_26 : decode cL_shines 26 = .ok (.iconst 2, 1) := by decide +kernel
theorem dL_shines_27 : decode cL_shines 27 = .ok (.ireturn, 1) := by decide +kernel
theorem dL_shines_28 : decode cL_shines 28 = .ok (.iconst 0, 1) := by decide +kernel
theorem dL_shines_29 : decode cL_shines 29 = .ok (.ireturn, 1) := by decide +kernel
theorem dL_sector_0 : decode cL_sector 0 = .ok (.aload 4, 2) := by decide +kernel
theorem dL_sector_2 : decode cL_sector 2 = .ok (.iconst 0, 1) := by decide +kernel
theorem dL_sector_3 : decode cL_sector 3 = .ok (.aload_n 0, 1) := by decide +kernel
theorem dL_sector_4 : decode cL_sector 4 = .ok (.iload_n 1, 1) := by decide +kernel
theorem dL_sector_5 : decode cL_sector 5 = .ok (.iload_n 2, 1) := by decide +kernel
theorem dL_sector_6 : decode cL_sector 6 = .ok (.iload_n 3, 1) := by decide +kernel
theorem dL_sector_7 : decode cL_sector 7 = .ok (.invokevirtual 48, 3) := by decide +kernel
theorem dL_sector_10 : decode cL_sector 10 = .ok (.i2l, 1) := by decide +kernel
theorem dL_sector_11 : decode cL_sector 11 = .ok (.lastore, 1) := by decide +kernel
theorem dL_sector_12 : decode cL_sector 12 = .ok (.goto 11, 3) := by decide +kernel
theorem dL_sector_15 : decode cL_sector 15 = .ok (.astore 5, 2) := by decide +kernel
theorem dL_sector_17 : decode cL_sector 17 = .ok (.iconst 1, 1) := by decide +kernel
theorem dL_sector_18 : decode cL_sector 18 = .ok (.ireturn, 1) := by decide +kernel
theorem dL_sector_19 : decode cL_sector 19 = .ok (.astore 5, 2) := by decide +kernel
theorem dL_sector_21 : decode cL_sector 21 = .ok (.iconst 2, 1) := by decide +kernel
theorem dL_sector_22 : decode cL_sector 22 = .ok (.ireturn, 1) := by decide +kernel
theorem dL_sector_23 : decode cL_sector 23 = .ok (.iconst 0, 1) := by decide +kernel
theorem dL_sector_24 : decode cL_sector 24 = .ok (.ireturn, 1) := by decide +kernel
theorem dL_isSeen_0 : decode cL_isSeen 0 = .ok (.aload 4, 2) := by decide +kernel
theorem dL_isSeen_2 : decode cL_isSeen 2 = .ok (.iconst 0, 1) := by decide +kernel
theorem dL_isSeen_3 : decode cL_isSeen 3 = .ok (.aload_n 0, 1) := by decide +kernel
theorem dL_isSeen_4 : decode cL_isSeen 4 = .ok (.iload_n 1, 1) := by decide +kernel
theorem dL_isSeen_5 : decode cL_isSeen 5 = .ok (.iload_n 2, 1) := by decide +kernel
theorem dL_isSeen_6 : decode cL_isSeen 6 = .ok (.iload_n 3, 1) := by decide +kernel
theorem dL_isSeen_7 : decode cL_isSeen 7 = .ok (.invokevirtual 51, 3) := by decide +kernel
theorem dL_isSeen_10 : decode cL_isSeen 10 = .ok (.ifCond .eq 7, 3) := by decide +kernel
theorem dL_isSeen_13 : decode cL_isSeen 13 = .ok (.lconst 1, 1) := by decide +kernel
theorem dL_isSeen_14 : decode cL_isSeen 14 = .ok (.goto 4, 3) := by decide +kernel
theorem dL_isSeen_17 : decode cL_isSeen 17 = .ok (.lconst 0, 1) := by decide +kernel
theorem dL_isSeen_18 : decode cL_isSeen 18 = .ok (.lastore, 1) := by decide +kernel
theorem dL_isSeen_19 : decode cL_isSeen 19 = .ok (.goto 11, 3) := by decide +kernel
theorem dL_isSeen_22 : decode cL_isSeen 22 = .ok (.astore 5, 2) := by decide +kernel
theorem dL_isSeen_24 : decode cL_isSeen 24 = .ok (.iconst 1, 1) := by decide +kernel
theorem dL_isSeen_25 : decode cL_isSeen 25 = .ok (.ireturn, 1) := by decide +kernel
theorem dL_isSeen_26 : decode cL_isSeen 26 = .ok (.astore 5, 2) := by decide +kernel
theorem dL_isSeen_28 : decode cL_isSeen 28 = .ok (.iconst 2, 1) := by decide +kernel
theorem dL_isSeen_29 : decode cL_isSeen 29 = .ok (.ireturn, 1) := by decide +kernel
theorem dL_isSeen_30 : decode cL_isSeen 30 = .ok (.iconst 0, 1) := by decide +kernel
theorem dL_isSeen_31 : decode cL_isSeen 31 = .ok (.ireturn, 1) := by decide +kernel
theorem dL_common_0 : decode cL_common 0 = .ok (.aload_n 3, 1) := by decide +kernel
theorem dL_common_1 : decode cL_common 1 = .ok (.iconst 0, 1) := by decide +kernel
theorem dL_common_2 : decode cL_common 2 = .ok (.aload_n 0, 1) := by decide +kernel
theorem dL_common_3 : decode cL_common 3 = .ok (.iload_n 1, 1) := by decide +kernel
theorem dL_common_4 : decode cL_common 4 = .ok (.iload_n 2, 1) := by decide +kernel
theorem dL_common_5 : decode cL_common 5 = .ok (.invokevirtual 55, 3) := by decide +kernel
theorem dL_common_8 : decode cL_common 8 = .ok (.i2l, 1) := by decide +kernel
theorem dL_common_9 : decode cL_common 9 = .ok (.lastore, 1) := by decide +kernel
theorem dL_common_10 : decode cL_common 10 = .ok (.goto 7, 3) := by decide +kernel
theorem dL_common_13 : decode cL_common 13 = .ok (.astore 4, 2) := by decide +kernel
theorem dL_common_15 : decode cL_common 15 = .ok (.iconst 1, 1) := by decide +kernel
theorem dL_common_16 : decode cL_common 16 = .ok (.ireturn, 1) := by decide +kernel
theorem dL_common_17 : decode cL_common 17 = .ok (.iconst 0, 1) := by decide +kernel
theorem dL_common_18 : decode cL_common 18 = .ok (.ireturn, 1) := by decide +kernel
theorem dL_print_0 : decode cL_print 0 = .ok (.aload_n 1, 1) := by decide +kernel
theorem dL_print_1 : decode cL_print 1 = .ok (.iconst 0, 1) := by decide +kernel
theorem dL_print_2 : decode cL_print 2 = .ok (.aload_n 0, 1) := by decide +kernel
theorem dL_print_3 : decode cL_print 3 = .ok (.invokevirtual 59, 3) := by decide +kernel
theorem dL_print_6 : decode cL_print 6 = .ok (.i2l, 1) := by decide +kernel
theorem dL_print_7 : decode cL_print 7 = .ok (.lastore, 1) := by decide +kernel
theorem dL_print_8 : decode cL_print 8 = .ok (.goto 6, 3) := by decide +kernel
theorem dL_print_11 : decode cL_print 11 = .ok (.astore_n 2, 1) := by decide +kernel
theorem dL_print_12 : decode cL_print 12 = .ok (.iconst 1, 1) := by decide +kernel
theorem dL_print_13 : decode cL_print 13 = .ok (.ireturn, 1) := by decide +kernel
theorem dL_print_14 : decode cL_print 14 = .ok (.iconst 0, 1) := by decide +kernel
theorem dL_print_15 : decode cL_print 15 = .ok (.ireturn, 1) := by decide +kernel
theorem dL_correct_0 : decode cL_correct 0 = .ok (.aload_n 3, 1) := by decide +kernel
theorem dL_correct_1 : decode cL_correct 1 = .ok (.iconst 0, 1) := by decide +kernel
theorem dL_correct_2 : decode cL_correct 2 = .ok (.aload_n 0, 1) := by decide +kernel
theorem dL_correct_3 : decode cL_correct 3 = .ok (.iload_n 1, 1) := by decide +kernel
theorem dL_correct_4 : decode cL_correct 4 = .ok (.iload_n 2, 1) := by decide +kernel
theorem dL_correct_5 : decode cL_correct 5 = .ok (.invokevirtual 62, 3) := by decide +kernel
theorem dL_correct_8 : decode cL_correct 8 = .ok (.i2l, 1) := by decide +kernel
theorem dL_correct_9 : decode cL_correct 9 = .ok (.lastore, 1) := by decide +kernel
theorem dL_correct_10 : decode cL_correct 10 = .ok (.goto 11, 3) := by decide +kernel
theorem dL_correct_13 : decode cL_correct 13 = .ok (.astore 4, 2) := by decide +kernel
theorem dL_correct_15 : decode cL_correct 15 = .ok (.iconst 1, 1) := by decide +kernel
theorem dL_correct_16 : decode cL_correct 16 = .ok (.ireturn, 1) := by decide +kernel
theorem dL_correct_17 : decode cL_correct 17 = .ok (.astore 4, 2) := by decide +kernel
theorem dL_correct_19 : decode cL_correct 19 = .ok (.iconst 2, 1) := by decide +kernel
theorem dL_correct_20 : decode cL_correct 20 = .ok (.ireturn, 1) := by decide +kernel
theorem dL_correct_21 : decode cL_correct 21 = .ok (.iconst 0, 1) := by decide +kernel
theorem dL_correct_22 : decode cL_correct 22 = .ok (.ireturn, 1) := by decide +kernel
theorem dL_behind_0 : decode cL_behind 0 = .ok (.aload_n 2, 1) := by decide +kernel
theorem dL_behind_1 : decode cL_behind 1 = .ok (.iconst 0, 1) := by decide +kernel
theorem dL_behind_2 : decode cL_behind 2 = .ok (.aload_n 0, 1) := by decide +kernel
theorem dL_behind_3 : decode cL_behind 3 = .ok (.iload_n 1, 1) := by decide +kernel
theorem dL_behind_4 : decode cL_behind 4 = .ok (.invokevirtual 65, 3) := by decide +kernel
theorem dL_behind_7 : decode cL_behind 7 = .ok (.i2l, 1) := by decide +kernel
theorem dL_behind_8 : decode cL_behind 8 = .ok (.lastore, 1) := by decide +kernel
theorem dL_behind_9 : decode cL_behind 9 = .ok (.goto 6, 3) := by decide +kernel
theorem dL_behind_12 : decode cL_behind 12 = .ok (.astore_n 3, 1) := by decide +kernel
theorem dL_behind_13 : decode cL_behind 13 = .ok (.iconst 1, 1) := by decide +kernel
theorem dL_behind_14 : decode cL_behind 14 = .ok (.ireturn, 1) := by decide +kernel
theorem dL_behind_15 : decode cL_behind 15 = .ok (.iconst 0, 1) := by decide +kernel
theorem dL_behind_16 : decode cL_behind 16 = .ok (.ireturn, 1) := by decide +kernel
theorem dL_shown_0 : decode cL_shown 0 = .ok (.aload_n 3, 1) := by decide +kernel
theorem dL_shown_1 : decode cL_shown 1 = .ok (.iconst 0, 1) := by decide +kernel
theorem dL_shown_2 : decode cL_shown 2 = .ok (.aload_n 0, 1) := by decide +kernel
theorem dL_shown_3 : decode cL_shown 3 = .ok (.iload_n 1, 1) := by decide +kernel
theorem dL_shown_4 : decode cL_shown 4 = .ok (.iload_n 2, 1) := by decide +kernel
theorem dL_shown_5 : decode cL_shown 5 = .ok (.invokevirtual 68, 3) := by decide +kernel
theorem dL_shown_8 : decode cL_shown 8 = .ok (.i2l, 1) := by decide +kernel
theorem dL_shown_9 : decode cL_shown 9 = .ok (.lastore, 1) := by decide +kernel
theorem dL_shown_10 : decode cL_shown 10 = .ok (.goto 7, 3) := by decide +kernel
theorem dL_shown_13 : decode cL_shown 13 = .ok (.astore 4, 2) := by decide +kernel
theorem dL_shown_15 : decode cL_shown 15 = .ok (.iconst 1, 1) := by decide +kernel
theorem dL_shown_16 : decode cL_shown 16 = .ok (.ireturn, 1) := by decide +kernel
theorem dL_shown_17 : decode cL_shown 17 = .ok (.iconst 0, 1) := by decide +kernel
theorem dL_shown_18 : decode cL_shown 18 = .ok (.ireturn, 1) := by decide +kernel
theorem dL_taken_0 : decode cL_taken 0 = .ok (.aload 7, 2) := by decide +kernel
theorem dL_taken_2 : decode cL_taken 2 = .ok (.iconst 0, 1) := by decide +kernel
theorem dL_taken_3 : decode cL_taken 3 = .ok (.aload_n 0, 1) := by decide +kernel
theorem dL_taken_4 : decode cL_taken 4 = .ok (.iload_n 1, 1) := by decide +kernel
theorem dL_taken_5 : decode cL_taken 5 = .ok (.iload_n 2, 1) := by decide +kernel
theorem dL_taken_6 : decode cL_taken 6 = .ok (.iload_n 3, 1) := by decide +kernel
theorem dL_taken_7 : decode cL_taken 7 = .ok (.iload 4, 2) := by decide +kernel
theorem dL_taken_9 : decode cL_taken 9 = .ok (.iload 5, 2) := by decide +kernel
theorem dL_taken_11 : decode cL_taken 11 = .ok (.iload 6, 2) := by decide +kernel
theorem dL_taken_13 : decode cL_taken 13 = .ok (.invokevirtual 71, 3) := by decide +kernel
theorem dL_taken_16 : decode cL_taken 16 = .ok (.i2l, 1) := by decide +kernel
theorem dL_taken_17 : decode cL_taken 17 = .ok (.lastore, 1) := by decide +kernel
theorem dL_taken_18 : decode cL_taken 18 = .ok (.goto 11, 3) := by decide +kernel
theorem dL_taken_21 : decode cL_taken 21 = .ok (.astore 8, 2) := by decide +kernel
theorem dL_taken_23 : decode cL_taken 23 = .ok (.iconst 1, 1) := by decide +kernel
theorem dL_taken_24 : decode cL_taken 24 = .ok (.ireturn, 1) := by decide +kernel
theorem dL_taken_25 : decode cL_taken 25 = .ok (.astore 8, 2) := by decide +kernel
theorem dL_taken_27 : decode cL_taken 27 = .ok (.iconst 2, 1) := by decide +kernel
theorem dL_taken_28 : decode cL_taken 28 = .ok (.ireturn, 1) := by decide +kernel
theorem dL_taken_29 : decode cL_taken 29 = .ok (.iconst 0, 1) := by decide +kernel
theorem dL_taken_30 : decode cL_taken 30 = .ok (.ireturn, 1) := by decide +kernel
theorem dL_law_0 : decode cL_law 0 = .ok (.new 8, 3) := by decide +kernel
theorem dL_law_3 : decode cL_law 3 = .ok (.dup, 1) := by decide +kernel
theorem dL_law_4 : decode cL_law 4 = .ok (.invokespecial 75, 3) := by decide +kernel
theorem dL_law_7 : decode cL_law 7 = .ok (.astore_n 1, 1) := by decide +kernel
theorem dL_law_8 : decode cL_law 8 = .ok (.new 76, 3) := by decide +kernel
theorem dL_law_11 : decode cL_law 11 = .ok (.dup, 1) := by decide +kernel
theorem dL_law_12 : decode cL_law 12 = .ok (.invokespecial 78, 3) := by decide +kernel
theorem dL_law_15 : decode cL_law 15 = .ok (.astore_n 2, 1) := by decide +kernel
theorem dL_law_16 : decode cL_law 16 = .ok (.iconst 1, 1) := by decide +kernel
theorem dL_law_17 : decode cL_law 17 = .ok (.newarray .long, 2) := by decide +kernel
theorem dL_law_19 : decode cL_law 19 = .ok (.astore_n 3, 1) := by decide +kernel
theorem dL_law_20 : decode cL_law 20 = .ok (.iconst 0, 1) := by decide +kernel
theorem dL_law_21 : decode cL_law 21 = .ok (.istore 4, 2) := by decide +kernel
theorem dL_law_23 : decode cL_law 23 = .ok (.iload 4, 2) := by decide +kernel
theorem dL_law_25 : decode cL_law 25 = .ok (.aload_n 0, 1) := by decide +kernel
theorem dL_law_26 : decode cL_law 26 = .ok (.arraylength, 1) := by decide +kernel
theorem dL_law_27 : decode cL_law 27 = .ok (.bipush 7, 2) := by decide +kernel
theorem dL_law_29 : decode cL_law 29 = .ok (.isub, 1) := by decide +kernel
theorem dL_law_30 : decode cL_law 30 = .ok (.if_icmp .gt 1372, 3) := by decide +kernel
theorem dL_law_33 : decode cL_law 33 = .ok (.aload_n 0, 1) := by decide +kernel
theorem dL_law_34 : decode cL_law 34 = .ok (.iload 4, 2) := by decide +kernel
theorem dL_law_36 : decode cL_law 36 = .ok (.iaload, 1) := by decide +kernel
theorem dL_law_37 : decode cL_law 37 = .ok (.bipush 31, 2) := by decide +kernel
theorem dL_law_39 : decode cL_law 39 = .ok (.iand, 1) := by decide +kernel
theorem dL_law_40 : decode cL_law 40 = .ok (.tableswitch 1356 0 18 #[92, 148, 192, 248, 323, 398, 502, 582, 666, 741, 821, 908, 976, 989, 1002, 1046, 1114, 1170, 1238], 92) := by decide +kernel
theorem dL_law_132 : decode cL_law 132 = .ok (.aload_n 1, 1) := by decide +kernel
theorem dL_law_133 : decode cL_law 133 = .ok (.aload_n 0, 1) := by decide +kernel
theorem dL_law_134 : decode cL_law 134 = .ok (.iload 4, 2) := by decide +kernel
theorem dL_law_136 : decode cL_law 136 = .ok (.iconst 1, 1) := by decide +kernel
theorem dL_law_137 : decode cL_law 137 = .ok (.iadd, 1) := by decide +kernel
theorem dL_law_138 : decode cL_law 138 = .ok (.iaload, 1) := by decide +kernel
theorem dL_law_139 : decode cL_law 139 = .ok (.aload_n 3, 1) := by decide +kernel
theorem dL_law_140 : decode cL_law 140 = .ok (.invokestatic 79, 3) := by decide +kernel
theorem dL_law_143 : decode cL_law 143 = .ok (.istore 5, 2) := by decide +kernel
theorem dL_law_145 : decode cL_law 145 = .ok (.aload_n 2, 1) := by decide +kernel
theorem dL_law_146 : decode cL_law 146 = .ok (.aload_n 0, 1) := by decide +kernel
theorem dL_law_147 : decode cL_law 147 = .ok (.iload 4, 2) := by decide +kernel
theorem dL_law_149 : decode cL_law 149 = .ok (.iconst 1, 1) := by decide +kernel
theorem dL_law_150 : decode cL_law 150 = .ok (.iadd, 1) := by decide +kernel
theorem dL_law_151 : decode cL_law 151 = .ok (.iaload, 1) := by decide +kernel
theorem dL_law_152 : decode cL_law 152 = .ok (.invokevirtual 84, 3) := by decide +kernel
theorem dL_law_155 : decode cL_law 155 = .ok (.istore 6, 2) := by decide +kernel
theorem dL_law_157 : decode cL_law 157 = .ok (.aload_n 2, 1) := by decide +kernel
theorem dL_law_158 : decode cL_law 158 = .ok (.invokevirtual 85, 3) := by decide +kernel
theorem dL_law_161 : decode cL_law 161 = .ok (.iload 5, 2) := by decide +kernel
theorem dL_law_163 : decode cL_law 163 = .ok (.if_icmp .eq 5, 3) := by decide +kernel
theorem dL_law_166 : decode cL_law 166 = .ok (.iconst 0, 1) := by decide +kernel
theorem dL_law_167 : decode cL_law 167 = .ok (.ireturn, 1) := by decide +kernel
theorem dL_law_168 : decode cL_law 168 = .ok (.iload 5, 2) := by decide +kernel
theorem dL_law_170 : decode cL_law 170 = .ok (.ifCond .ne 15, 3) := by decide +kernel
theorem dL_law_173 : decode cL_law 173 = .ok (.aload_n 3, 1) := by decide +kernel
theorem dL_law_174 : decode cL_law 174 = .ok (.iconst 0, 1) := by decide +kernel
theorem dL_law_175 : decode cL_law 175 = .ok (.laload, 1) := by decide +kernel
theorem dL_law_176 : decode cL_law 176 = .ok (.iload 6, 2) := by decide +kernel
theorem dL_law_178 : decode cL_law 178 = .ok (.i2l, 1) := by decide +kernel
theorem dL_law_179 : decode cL_law 179 = .ok (.lcmp, 1) := by decide +kernel
theorem dL_law_180 : decode cL_law 180 = .ok (.ifCond .eq 5, 3) := by decide +kernel
theorem dL_law_183 : decode cL_law 183 = .ok (.iconst 0, 1) := by decide +kernel
theorem dL_law_184 : decode cL_law 184 = .ok (.ireturn, 1) := by decide +kernel
theorem dL_law_185 : decode cL_law 185 = .ok (.goto 1211, 3) := by decide +kernel
theorem dL_law_188 : decode cL_law 188 = .ok (.aload_n 1, 1) := by decide +kernel
theorem dL_law_189 : decode cL_law 189 = .ok (.aload_n 3, 1) := by decide +kernel
theorem dL_law_190 : decode cL_law 190 = .ok (.invokestatic 88, 3) := by decide +kernel
theorem dL_law_193 : decode cL_law 193 = .ok (.istore 5, 2) := by decide +kernel
theorem dL_law_195 : decode cL_law 195 = .ok (.aload_n 2, 1) := by decide +kernel
theorem dL_law_196 : decode cL_law 196 = .ok (.invokevirtual 91, 3) := by decide +kernel
theorem dL_law_199 : decode cL_law 199 = .ok (.istore 6, 2) := by decide +kernel
theorem dL_law_201 : decode cL_law 201 = .ok (.aload_n 2, 1) := by decide +kernel
theorem dL_law_202 : decode cL_law 202 = .ok (.invokevirtual 85, 3) := by decide +kernel
theorem dL_law_205 : decode cL_law 205 = .ok (.iload 5, 2) := by decide +kernel
theorem dL_law_207 : decode cL_law 207 = .ok (.if_icmp .eq 5, 3) := by decide +kernel
theorem dL_law_210 : decode cL_law 210 = .ok (.iconst 0, 1) := by decide +kernel
theorem dL_law_211 : decode cL_law 211 = .ok (.ireturn, 1) := by decide +kernel
theorem dL_law_212 : decode cL_law 212 = .ok (.iload 5, 2) := by decide +kernel
theorem dL_law_214 : decode cL_law 214 = .ok (.ifCond .ne 15, 3) := by decide +kernel
theorem dL_law_217 : decode cL_law 217 = .ok (.aload_n 3, 1) := by decide +kernel
theorem dL_law_218 : decode cL_law 218 = .ok (.iconst 0, 1) := by decide +kernel
theorem dL_law_219 : decode cL_law 219 = .ok (.laload, 1) := by decide +kernel
theorem dL_law_220 : decode cL_law 220 = .ok (.iload 6, 2) := by decide +kernel
theorem dL_law_222 : decode cL_law 222 = .ok (.i2l, 1) := by decide +kernel
theorem dL_law_223 : decode cL_law 223 = .ok (.lcmp, 1) := by decide +kernel
theorem dL_law_224 : decode cL_law 224 = .ok (.ifCond .eq 5, 3) := by decide +kernel
theorem dL_law_227 : decode cL_law 227 = .ok (.iconst 0, 1) := by decide +kernel
theorem dL_law_228 : decode cL_law 228 = .ok (.ireturn, 1) := by decide +kernel
theorem dL_law_229 : decode cL_law 229 = .ok (.goto 1167, 3) := by decide +kernel
theorem dL_law_232 : decode cL_law 232 = .ok (.aload_n 1, 1) := by decide +kernel
theorem dL_law_233 : decode cL_law 233 = .ok (.aload_n 0, 1) := by decide +kernel
theorem dL_law_234 : decode cL_law 234 = .ok (.iload 4, 2) := by decide +kernel
theorem dL_law_236 : decode cL_law 236 = .ok (.iconst 1, 1) := by decide +kernel
theorem dL_law_237 : decode cL_law 237 = .ok (.iadd, 1) := by decide +kernel
theorem dL_law_238 : decode cL_law 238 = .ok (.iaload, 1) := by decide +kernel
theorem dL_law_239 : decode cL_law 239 = .ok (.aload_n 3, 1) := by decide +kernel
theorem dL_law_240 : decode cL_law 240 = .ok (.invokestatic 92, 3) := by decide +kernel
theorem dL_law_243 : decode cL_law 243 = .ok (.istore 5, 2) := by decide +kernel
theorem dL_law_245 : decode cL_law 245 = .ok (.aload_n 2, 1) := by decide +kernel
theorem dL_law_246 : decode cL_law 246 = .ok (.aload_n 0, 1) := by decide +kernel
theorem dL_law_247 : decode cL_law 247 = .ok (.iload 4, 2) := by decide +kernel
theorem dL_law_249 : decode cL_law 249 = .ok (.iconst 1, 1) := by decide +kernel
theorem dL_law_250 : decode cL_law 250 = .ok (.iadd, 1) := by decide +kernel
theorem dL_law_251 : decode cL_law 251 = .ok (.iaload, 1) := by decide +kernel
theorem dL_law_252 : decode cL_law 252 = .ok (.invokevirtual 94, 3) := by decide +kernel
theorem dL_law_255 : decode cL_law 255 = .ok (.istore 6, 2) := by decide +kernel
theorem dL_law_257 : decode cL_law 257 = .ok (.aload_n 2, 1) := by decide +kernel
theorem dL_law_258 : decode cL_law 258 = .ok (.invokevirtual 85, 3) := by decide +kernel
theorem dL_law_261 : decode cL_law 261 = .ok (.iload 5, 2) := by decide +kernel
theorem dL_law_263 : decode cL_law 263 = .ok (.if_icmp .eq 5, 3) := by decide +kernel
theorem dL_law_266 : decode cL_law 266 = .ok (.iconst 0, 1) := by decide +kernel
theorem dL_law_267 : decode cL_law 267 = .ok (.ireturn, 1) := by decide +kernel
theorem dL_law_268 : decode cL_law 268 = .ok (.iload 5, 2) := by decide +kernel
theorem dL_law_270 : decode cL_law 270 = .ok (.ifCond .ne 15, 3) := by decide +kernel
theorem dL_law_273 : decode cL_law 273 = .ok (.aload_n 3, 1) := by decide +kernel
theorem dL_law_274 : decode cL_law 274 = .ok (.iconst 0, 1) := by decide +kernel
theorem dL_law_275 : decode cL_law 275 = .ok (.laload, 1) := by decide +kernel
theorem dL_law_276 : decode cL_law 276 = .ok (.iload 6, 2) := by decide +kernel
theorem dL_law_278 : decode cL_law 278 = .ok (.i2l, 1) := by decide +kernel
theorem dL_law_279 : decode cL_law 279 = .ok (.lcmp, 1) := by decide +kernel
theorem dL_law_280 : decode cL_law 280 = .ok (.ifCond .eq 5, 3) := by decide +kernel
theorem dL_law_283 : decode cL_law 283 = .ok (.iconst 0, 1) := by decide +kernel
theorem dL_law_284 : decode cL_law 284 = .ok (.ireturn, 1) := by decide +kernel
theorem dL_law_285 : decode cL_law 285 = .ok (.goto 1111, 3) := by decide +kernel
theorem dL_law_288 : decode cL_law 288 = .ok (.aload_n 1, 1) := by decide +kernel
theorem dL_law_289 : decode cL_law 289 = .ok (.aload_n 0, 1) := by decide +kernel
theorem dL_law_290 : decode cL_law 290 = .ok (.iload 4, 2) := by decide +kernel
theorem dL_law_292 : decode cL_law 292 = .ok (.iconst 1, 1) := by decide +kernel
theorem dL_law_293 : decode cL_law 293 = .ok (.iadd, 1) := by decide +kernel
theorem dL_law_294 : decode cL_law 294 = .ok (.iaload, 1) := by decide +kernel
theorem dL_law_295 : decode cL_law 295 = .ok (.aload_n 0, 1) := by decide +kernel
theorem dL_law_296 : decode cL_law 296 = .ok (.iload 4, 2) := by decide +kernel
theorem dL_law_298 : decode cL_law 298 = .ok (.iconst 2, 1) := by decide +kernel
theorem dL_law_299 : decode cL_law 299 = .ok (.iadd, 1) := by decide +kernel
theorem dL_law_300 : decode cL_law 300 = .ok (.iaload, 1) := by decide +kernel
theorem dL_law_301 : decode cL_law 301 = .ok (.aload_n 3, 1) := by decide +kernel
theorem dL_law_302 : decode cL_law 302 = .ok (.invokestatic 95, 3) := by decide +kernel
theorem dL_law_305 : decode cL_law 305 = .ok (.istore 5, 2) := by decide +kernel
theorem dL_law_307 : decode cL_law 307 = .ok (.aload_n 2, 1) := by decide +kernel
theorem dL_law_308 : decode cL_law 308 = .ok (.aload_n 0, 1) := by decide +kernel
theorem dL_law_309 : decode cL_law 309 = .ok (.iload 4, 2) := by decide +kernel
theorem dL_law_311 : decode cL_law 311 = .ok (.iconst 1, 1) := by decide +kernel
theorem dL_law_312 : decode cL_law 312 = .ok (.iadd, 1) := by decide +kernel
theorem dL_law_313 : decode cL_law 313 = .ok (.iaload, 1) := by decide +kernel
theorem dL_law_314 : decode cL_law 314 = .ok (.aload_n 0, 1) := by decide +kernel
theorem dL_law_315 : decode cL_law 315 = .ok (.iload 4, 2) := by decide +kernel
theorem dL_law_317 : decode cL_law 317 = .ok (.iconst 2, 1) := by decide +kernel
theorem dL_law_318 : decode cL_law 318 = .ok (.iadd, 1) := by decide +kernel
theorem dL_law_319 : decode cL_law 319 = .ok (.iaload, 1) := by decide +kernel
theorem dL_law_320 : decode cL_law 320 = .ok (.invokevirtual 98, 3) := by decide +kernel
theorem dL_law_323 : decode cL_law 323 = .ok (.istore 6, 2) := by decide +kernel
theorem dL_law_325 : decode cL_law 325 = .ok (.aload_n 2, 1) := by decide +kernel
theorem dL_law_326 : decode cL_law 326 = .ok (.invokevirtual 85, 3) := by decide +kernel
theorem dL_law_329 : decode cL_law 329 = .ok (.iload 5, 2) := by decide +kernel
theorem dL_law_331 : decode cL_law 331 = .ok (.if_icmp .eq 5, 3) := by decide +kernel
theorem dL_law_334 : decode cL_law 334 = .ok (.iconst 0, 1) := by decide +kernel
theorem dL_law_335 : decode cL_law 335 = .ok (.ireturn, 1) := by decide +kernel
theorem dL_law_336 : decode cL_law 336 = .ok (.iload 5, 2) := by decide +kernel
theorem dL_law_338 : decode cL_law 338 = .ok (.ifCond .ne 22, 3) := by decide +kernel
theorem dL_law_341 : decode cL_law 341 = .ok (.aload_n 3, 1) := by decide +kernel
theorem dL_law_342 : decode cL_law 342 = .ok (.iconst 0, 1) := by decide +kernel
theorem dL_law_343 : decode cL_law 343 = .ok (.laload, 1) := by decide +kernel
theorem dL_law_344 : decode cL_law 344 = .ok (.iload 6, 2) := by decide +kernel
theorem dL_law_346 : decode cL_law 346 = .ok (.ifCond .eq 7, 3) := by decide +kernel
theorem dL_law_349 : decode cL_law 349 = .ok (.lconst 1, 1) := by decide +kernel
theorem dL_law_350 : decode cL_law 350 = .ok (.goto 4, 3) := by decide +kernel
theorem dL_law_353 : decode cL_law 353 = .ok (.lconst 0, 1) := by decide +kernel
theorem dL_law_354 : decode cL_law 354 = .ok (.lcmp, 1) := by decide +kernel
theorem dL_law_355 : decode cL_law 355 = .ok (.ifCond .eq 5, 3) := by decide +kernel
theorem dL_law_358 : decode cL_law 358 = .ok (.iconst 0, 1) := by decide +kernel
theorem dL_law_359 : decode cL_law 359 = .ok (.ireturn, 1) := by decide +kernel
theorem dL_law_360 : decode cL_law 360 = .ok (.goto 1036, 3) := by decide +kernel
theorem dL_law_363 : decode cL_law 363 = .ok (.aload_n 1, 1) := by decide +kernel
theorem dL_law_364 : decode cL_law 364 = .ok (.aload_n 0, 1) := by decide +kernel
theorem dL_law_365 : decode cL_law 365 = .ok (.iload 4, 2) := by decide +kernel
theorem dL_law_367 : decode cL_law 367 = .ok (.iconst 1, 1) := by decide +kernel
theorem dL_law_368 : decode cL_law 368 = .ok (.iadd, 1) := by decide +kernel
theorem dL_law_369 : decode cL_law 369 = .ok (.iaload, 1) := by decide +kernel
theorem dL_law_370 : decode cL_law 370 = .ok (.aload_n 0, 1) := by decide +kernel
theorem dL_law_371 : decode cL_law 371 = .ok (.iload 4, 2) := by decide +kernel
theorem dL_law_373 : decode cL_law 373 = .ok (.iconst 2, 1) := by decide +kernel
theorem dL_law_374 : decode cL_law 374 = .ok (.iadd, 1) := by decide +kernel
theorem dL_law_375 : decode cL_law 375 = .ok (.iaload, 1) := by decide +kernel
theorem dL_law_376 : decode cL_law 376 = .ok (.aload_n 3, 1) := by decide +kernel
theorem dL_law_377 : decode cL_law 377 = .ok (.invokestatic 99, 3) := by decide +kernel
theorem dL_law_380 : decode cL_law 380 = .ok (.istore 5, 2) := by decide +kernel
theorem dL_law_382 : decode cL_law 382 = .ok (.aload_n 2, 1) := by decide +kernel
theorem dL_law_383 : decode cL_law 383 = .ok (.aload_n 0, 1) := by decide +kernel
theorem dL_law_384 : decode cL_law 384 = .ok (.iload 4, 2) := by decide +kernel
theorem dL_law_386 : decode cL_law 386 = .ok (.iconst 1, 1) := by decide +kernel
theorem dL_law_387 : decode cL_law 387 = .ok (.iadd, 1) := by decide +kernel
theorem dL_law_388 : decode cL_law 388 = .ok (.iaload, 1) := by decide +kernel
theorem dL_law_389 : decode cL_law 389 = .ok (.aload_n 0, 1) := by decide +kernel
theorem dL_law_390 : decode cL_law 390 = .ok (.iload 4, 2) := by decide +kernel
theorem dL_law_392 : decode cL_law 392 = .ok (.iconst 2, 1) := by decide +kernel
theorem dL_law_393 : decode cL_law 393 = .ok (.iadd, 1) := by decide +kernel
theorem dL_law_394 : decode cL_law 394 = .ok (.iaload, 1) := by decide +kernel
theorem dL_law_395 : decode cL_law 395 = .ok (.invokevirtual 101, 3) := by decide +kernel
theorem dL_law_398 : decode cL_law 398 = .ok (.istore 6, 2) := by decide +kernel
theorem dL_law_400 : decode cL_law 400 = .ok (.aload_n 2, 1) := by decide +kernel
theorem dL_law_401 : decode cL_law 401 = .ok (.invokevirtual 85, 3) := by decide +kernel
theorem dL_law_404 : decode cL_law 404 = .ok (.iload 5, 2) := by decide +kernel
theorem dL_law_406 : decode cL_law 406 = .ok (.if_icmp .eq 5, 3) := by decide +kernel
theorem dL_law_409 : decode cL_law 409 = .ok (.iconst 0, 1) := by decide +kernel
theorem dL_law_410 : decode cL_law 410 = .ok (.ireturn, 1) := by decide +kernel
theorem dL_law_411 : decode cL_law 411 = .ok (.iload 5, 2) := by decide +kernel
theorem dL_law_413 : decode cL_law 413 = .ok (.ifCond .ne 22, 3) := by decide +kernel
theorem dL_law_416 : decode cL_law 416 = .ok (.aload_n 3, 1) := by decide +kernel
theorem dL_law_417 : decode cL_law 417 = .ok (.iconst 0, 1) := by decide +kernel
theorem dL_law_418 : decode cL_law 418 = .ok (.laload, 1) := by decide +kernel
theorem dL_law_419 : decode cL_law 419 = .ok (.iload 6, 2) := by decide +kernel
theorem dL_law_421 : decode cL_law 421 = .ok (.ifCond .eq 7, 3) := by decide +kernel
theorem dL_law_424 : decode cL_law 424 = .ok (.lconst 1, 1) := by decide +kernel
theorem dL_law_425 : decode cL_law 425 = .ok (.goto 4, 3) := by decide +kernel
theorem dL_law_428 : decode cL_law 428 = .ok (.lconst 0, 1) := by decide +kernel
theorem dL_law_429 : decode cL_law 429 = .ok (.lcmp, 1) := by decide +kernel
theorem dL_law_430 : decode cL_law 430 = .ok (.ifCond .eq 5, 3) := by decide +kernel
theorem dL_law_433 : decode cL_law 433 = .ok (.iconst 0, 1) := by decide +kernel
theorem dL_law_434 : decode cL_law 434 = .ok (.ireturn, 1) := by decide +kernel
theorem dL_law_435 : decode cL_law 435 = .ok (.goto 961, 3) := by decide +kernel
theorem dL_law_438 : decode cL_law 438 = .ok (.aload_n 1, 1) := by decide +kernel
theorem dL_law_439 : decode cL_law 439 = .ok (.aload_n 0, 1) := by decide +kernel
theorem dL_law_440 : decode cL_law 440 = .ok (.iload 4, 2) := by decide +kernel
theorem dL_law_442 : decode cL_law 442 = .ok (.iconst 1, 1) := by decide +kernel
theorem dL_law_443 : decode cL_law 443 = .ok (.iadd, 1) := by decide +kernel
theorem dL_law_444 : decode cL_law 444 = .ok (.iaload, 1) := by decide +kernel
theorem dL_law_445 : decode cL_law 445 = .ok (.aload_n 0, 1) := by decide +kernel
theorem dL_law_446 : decode cL_law 446 = .ok (.iload 4, 2) := by decide +kernel
theorem dL_law_448 : decode cL_law 448 = .ok (.iconst 2, 1) := by decide +kernel
theorem dL_law_449 : decode cL_law 449 = .ok (.iadd, 1) := by decide +kernel
theorem dL_law_450 : decode cL_law 450 = .ok (.iaload, 1) := by decide +kernel
theorem dL_law_451 : decode cL_law 451 = .ok (.aload_n 0, 1) := by decide +kernel
theorem dL_law_452 : decode cL_law 452 = .ok (.iload 4, 2) := by decide +kernel
theorem dL_law_454 : decode cL_law 454 = .ok (.iconst 3, 1) := by decide +kernel
theorem dL_law_455 : decode cL_law 455 = .ok (.iadd, 1) := by decide +kernel
theorem dL_law_456 : decode cL_law 456 = .ok (.iaload, 1) := by decide +kernel
theorem dL_law_457 : decode cL_law 457 = .ok (.aload_n 0, 1) := by decide +kernel
theorem dL_law_458 : decode cL_law 458 = .ok (.iload 4, 2) := by decide +kernel
theorem dL_law_460 : decode cL_law 460 = .ok (.iconst 4, 1) := by decide +kernel
theorem dL_law_461 : decode cL_law 461 = .ok (.iadd, 1) := by decide +kernel
theorem dL_law_462 : decode cL_law 462 = .ok (.iaload, 1) := by decide +kernel
theorem dL_law_463 : decode cL_law 463 = .ok (.aload_n 0, 1) := by decide +kernel
theorem dL_law_464 : decode cL_law 464 = .ok (.iload 4, 2) := by decide +kernel
theorem dL_law_466 : decode cL_law 466 = .ok (.iconst 5, 1) := by decide +kernel
theorem dL_law_467 : decode cL_law 467 = .ok (.iadd, 1) := by decide +kernel
theorem dL_law_468 : decode cL_law 468 = .ok (.iaload, 1) := by decide +kernel
theorem dL_law_469 : decode cL_law 469 = .ok (.aload_n 3, 1) := by decide +kernel
theorem dL_law_470 : decode cL_law 470 = .ok (.invokestatic 102, 3) := by decide +kernel
theorem dL_law_473 : decode cL_law 473 = .ok (.istore 5, 2) := by decide +kernel
theorem dL_law_475 : decode cL_law 475 = .ok (.aload_n 2, 1) := by decide +kernel
theorem dL_law_476 : decode cL_law 476 = .ok (.aload_n 0, 1) := by decide +kernel
theorem dL_law_477 : decode cL_law 477 = .ok (.iload 4, 2) := by decide +kernel
theorem dL_law_479 : decode cL_law 479 = .ok (.iconst 1, 1) := by decide +kernel
theorem dL_law_480 : decode cL_law 480 = .ok (.iadd, 1) := by decide +kernel
theorem dL_law_481 : decode cL_law 481 = .ok (.iaload, 1) := by decide +kernel
theorem dL_law_482 : decode cL_law 482 = .ok (.aload_n 0, 1) := by decide +kernel
theorem dL_law_483 : decode cL_law 483 = .ok (.iload 4, 2) := by decide +kernel
theorem dL_law_485 : decode cL_law 485 = .ok (.iconst 2, 1) := by decide +kernel
theorem dL_law_486 : decode cL_law 486 = .ok (.iadd, 1) := by decide +kernel
theorem dL_law_487 : decode cL_law 487 = .ok (.iaload, 1) := by decide +kernel
theorem dL_law_488 : decode cL_law 488 = .ok (.aload_n 0, 1) := by decide +kernel
theorem dL_law_489 : decode cL_law 489 = .ok (.iload 4, 2) := by decide +kernel
theorem dL_law_491 : decode cL_law 491 = .ok (.iconst 3, 1) := by decide +kernel
theorem dL_law_492 : decode cL_law 492 = .ok (.iadd, 1) := by decide +kernel
theorem dL_law_493 : decode cL_law 493 = .ok (.iaload, 1) := by decide +kernel
theorem dL_law_494 : decode cL_law 494 = .ok (.aload_n 0, 1) := by decide +kernel
theorem dL_law_495 : decode cL_law 495 = .ok (.iload 4, 2) := by decide +kernel
theorem dL_law_497 : decode cL_law 497 = .ok (.iconst 4, 1) := by decide +kernel
theorem dL_law_498 : decode cL_law 498 = .ok (.iadd, 1) := by decide +kernel
theorem dL_law_499 : decode cL_law 499 = .ok (.iaload, 1) := by decide +kernel
theorem dL_law_500 : decode cL_law 500 = .ok (.aload_n 0, 1) := by decide +kernel
theorem dL_law_501 : decode cL_law 501 = .ok (.iload 4, 2) := by decide +kernel
theorem dL_law_503 : decode cL_law 503 = .ok (.iconst 5, 1) := by decide +kernel
theorem dL_law_504 : decode cL_law 504 = .ok (.iadd, 1) := by decide +kernel
theorem dL_law_505 : decode cL_law 505 = .ok (.iaload, 1) := by decide +kernel
theorem dL_law_506 : decode cL_law 506 = .ok (.invokevirtual 105, 3) := by decide +kernel
theorem dL_law_509 : decode cL_law 509 = .ok (.istore 6, 2) := by decide +kernel
theorem dL_law_511 : decode cL_law 511 = .ok (.aload_n 2, 1) := by decide +kernel
theorem dL_law_512 : decode cL_law 512 = .ok (.invokevirtual 85, 3) := by decide +kernel
theorem dL_law_515 : decode cL_law 515 = .ok (.iload 5, 2) := by decide +kernel
theorem dL_law_517 : decode cL_law 517 = .ok (.if_icmp .eq 5, 3) := by decide +kernel
theorem dL_law_520 : decode cL_law 520 = .ok (.iconst 0, 1) := by decide +kernel
theorem dL_law_521 : decode cL_law 521 = .ok (.ireturn, 1) := by decide +kernel
theorem dL_law_522 : decode cL_law 522 = .ok (.iload 5, 2) := by decide +kernel
theorem dL_law_524 : decode cL_law 524 = .ok (.ifCond .ne 15, 3) := by decide +kernel
theorem dL_law_527 : decode cL_law 527 = .ok (.aload_n 3, 1) := by decide +kernel
theorem dL_law_528 : decode cL_law 528 = .ok (.iconst 0, 1) := by decide +kernel
theorem dL_law_529 : decode cL_law 529 = .ok (.laload, 1) := by decide +kernel
theorem dL_law_530 : decode cL_law 530 = .ok (.iload 6, 2) := by decide +kernel
theorem dL_law_532 : decode cL_law 532 = .ok (.i2l, 1) := by decide +kernel
theorem dL_law_533 : decode cL_law 533 = .ok (.lcmp, 1) := by decide +kernel
theorem dL_law_534 : decode cL_law 534 = .ok (.ifCond .eq 5, 3) := by decide +kernel
theorem dL_law_537 : decode cL_law 537 = .ok (.iconst 0, 1) := by decide +kernel
theorem dL_law_538 : decode cL_law 538 = .ok (.ireturn, 1) := by decide +kernel
theorem dL_law_539 : decode cL_law 539 = .ok (.goto 857, 3) := by decide +kernel
theorem dL_law_542 : decode cL_law 542 = .ok (.aload_n 1, 1) := by decide +kernel
theorem dL_law_543 : decode cL_law 543 = .ok (.aload_n 0, 1) := by decide +kernel
theorem dL_law_544 : decode cL_law 544 = .ok (.iload 4, 2) := by decide +kernel
theorem dL_law_546 : decode cL_law 546 = .ok (.iconst 1, 1) := by decide +kernel
theorem dL_law_547 : decode cL_law 547 = .ok (.iadd, 1) := by decide +kernel
theorem dL_law_548 : decode cL_law 548 = .ok (.iaload, 1) := by decide +kernel
theorem dL_law_549 : decode cL_law 549 = .ok (.aload_n 0, 1) := by decide +kernel
theorem dL_law_550 : decode cL_law 550 = .ok (.iload 4, 2) := by decide +kernel
theorem dL_law_552 : decode cL_law 552 = .ok (.iconst 2, 1) := by decide +kernel
theorem dL_law_553 : decode cL_law 553 = .ok (.iadd, 1) := by decide +kernel
theorem dL_law_554 : decode cL_law 554 = .ok (.iaload, 1) := by decide +kernel
theorem dL_law_555 : decode cL_law 555 = .ok (.aload_n 0, 1) := by decide +kernel
theorem dL_law_556 : decode cL_law 556 = .ok (.iload 4, 2) := by decide +kernel
theorem dL_law_558 : decode cL_law 558 = .ok (.iconst 3, 1) := by decide +kernel
theorem dL_law_559 : decode cL_law 559 = .ok (.iadd, 1) := by decide +kernel
theorem dL_law_560 : decode cL_law 560 = .ok (.iaload, 1) := by decide +kernel
theorem dL_law_561 : decode cL_law 561 = .ok (.aload_n 3, 1) := by decide +kernel
theorem dL_law_562 : decode cL_law 562 = .ok (.invokestatic 106, 3) := by decide +kernel
theorem dL_law_565 : decode cL_law 565 = .ok (.istore 5, 2) := by decide +kernel
theorem dL_law_567 : decode cL_law 567 = .ok (.aload_n 2, 1) := by decide +kernel
theorem dL_law_568 : decode cL_law 568 = .ok (.aload_n 0, 1) := by decide +kernel
theorem dL_law_569 : decode cL_law 569 = .ok (.iload 4, 2) := by decide +kernel
theorem dL_law_571 : decode cL_law 571 = .ok (.iconst 1, 1) := by decide +kernel
theorem dL_law_572 : decode cL_law 572 = .ok (.iadd, 1) := by decide +kernel
theorem dL_law_573 : decode cL_law 573 = .ok (.iaload, 1) := by decide +kernel
theorem dL_law_574 : decode cL_law 574 = .ok (.aload_n 0, 1) := by decide +kernel
theorem dL_law_575 : decode cL_law 575 = .ok (.iload 4, 2) := by decide +kernel
theorem dL_law_577 : decode cL_law 577 = .ok (.iconst 2, 1) := by decide +kernel
theorem dL_law_578 : decode cL_law 578 = .ok (.iadd, 1) := by decide +kernel
theorem dL_law_579 : decode cL_law 579 = .ok (.iaload, 1) := by decide +kernel
theorem dL_law_580 : decode cL_law 580 = .ok (.aload_n 0, 1) := by decide +kernel
theorem dL_law_581 : decode cL_law 581 = .ok (.iload 4, 2) := by decide +kernel
theorem dL_law_583 : decode cL_law 583 = .ok (.iconst 3, 1) := by decide +kernel
theorem dL_law_584 : decode cL_law 584 = .ok (.iadd, 1) := by decide +kernel
theorem dL_law_585 : decode cL_law 585 = .ok (.iaload, 1) := by decide +kernel
theorem dL_law_586 : decode cL_law 586 = .ok (.invokevirtual 109, 3) := by decide +kernel
theorem dL_law_589 : decode cL_law 589 = .ok (.istore 6, 2) := by decide +kernel
theorem dL_law_591 : decode cL_law 591 = .ok (.aload_n 2, 1) := by decide +kernel
theorem dL_law_592 : decode cL_law 592 = .ok (.invokevirtual 85, 3) := by decide +kernel
theorem dL_law_595 : decode cL_law 595 = .ok (.iload 5, 2) := by decide +kernel
theorem dL_law_597 : decode cL_law 597 = .ok (.if_icmp .eq 5, 3) := by decide +kernel
theorem dL_law_600 : decode cL_law 600 = .ok (.iconst 0, 1) := by decide +kernel
theorem dL_law_601 : decode cL_law 601 = .ok (.ireturn, 1) := by decide +kernel
theorem dL_law_602 : decode cL_law 602 = .ok (.iload 5, 2) := by decide +kernel
theorem dL_law_604 : decode cL_law 604 = .ok (.ifCond .ne 15, 3) := by decide +kernel
theorem dL_law_607 : decode cL_law 607 = .ok (.aload_n 3, 1) := by decide +kernel
theorem dL_law_608 : decode cL_law 608 = .ok (.iconst 0, 1) := by decide +kernel
theorem dL_law_609 : decode cL_law 609 = .ok (.laload, 1) := by decide +kernel
theorem dL_law_610 : decode cL_law 610 = .ok (.iload 6, 2) := by decide +kernel
theorem dL_law_612 : decode cL_law 612 = .ok (.i2l, 1) := by decide +kernel
theorem dL_law_613 : decode cL_law 613 = .ok (.lcmp, 1) := by decide +kernel
theorem dL_law_614 : decode cL_law 614 = .ok (.ifCond .eq 5, 3) := by decide +kernel
theorem dL_law_617 : decode cL_law 617 = .ok (.iconst 0, 1) := by decide +kernel
theorem dL_law_618 : decode cL_law 618 = .ok (.ireturn, 1) := by decide +kernel
theorem dL_law_619 : decode cL_law 619 = .ok (.goto 777, 3) := by decide +kernel
theorem dL_law_622 : decode cL_law 622 = .ok (.aload_n 1, 1) := by decide +kernel
theorem dL_law_623 : decode cL_law 623 = .ok (.aload_n 0, 1) := by decide +kernel
theorem dL_law_624 : decode cL_law 624 = .ok (.iload 4, 2) := by decide +kernel
theorem dL_law_626 : decode cL_law 626 = .ok (.iconst 1, 1) := by decide +kernel
theorem dL_law_627 : decode cL_law 627 = .ok (.iadd, 1) := by decide +kernel
theorem dL_law_628 : decode cL_law 628 = .ok (.iaload, 1) := by decide +kernel
theorem dL_law_629 : decode cL_law 629 = .ok (.aload_n 0, 1) := by decide +kernel
theorem dL_law_630 : decode cL_law 630 = .ok (.iload 4, 2) := by decide +kernel
theorem dL_law_632 : decode cL_law 632 = .ok (.iconst 2, 1) := by decide +kernel
theorem dL_law_633 : decode cL_law 633 = .ok (.iadd, 1) := by decide +kernel
theorem dL_law_634 : decode cL_law 634 = .ok (.iaload, 1) := by decide +kernel
theorem dL_law_635 : decode cL_law 635 = .ok (.ifCond .eq 7, 3) := by decide +kernel
theorem dL_law_638 : decode cL_law 638 = .ok (.iconst 1, 1) := by decide +kernel
theorem dL_law_639 : decode cL_law 639 = .ok (.goto 4, 3) := by decide +kernel
theorem dL_law_642 : decode cL_law 642 = .ok (.iconst 0, 1) := by decide +kernel
theorem dL_law_643 : decode cL_law 643 = .ok (.aload_n 3, 1) := by decide +kernel
theorem dL_law_644 : decode cL_law 644 = .ok (.invokestatic 110, 3) := by decide +kernel
theorem dL_law_647 : decode cL_law 647 = .ok (.istore 5, 2) := by decide +kernel
theorem dL_law_649 : decode cL_law 649 = .ok (.aload_n 2, 1) := by decide +kernel
theorem dL_law_650 : decode cL_law 650 = .ok (.aload_n 0, 1) := by decide +kernel
theorem dL_law_651 : decode cL_law 651 = .ok (.iload 4, 2) := by decide +kernel
theorem dL_law_653 : decode cL_law 653 = .ok (.iconst 1, 1) := by decide +kernel
theorem dL_law_654 : decode cL_law 654 = .ok (.iadd, 1) := by decide +kernel
theorem dL_law_655 : decode cL_law 655 = .ok (.iaload, 1) := by decide +kernel
theorem dL_law_656 : decode cL_law 656 = .ok (.aload_n 0, 1) := by decide +kernel
theorem dL_law_657 : decode cL_law 657 = .ok (.iload 4, 2) := by decide +kernel
theorem dL_law_659 : decode cL_law 659 = .ok (.iconst 2, 1) := by decide +kernel
theorem dL_law_660 : decode cL_law 660 = .ok (.iadd, 1) := by decide +kernel
theorem dL_law_661 : decode cL_law 661 = .ok (.iaload, 1) := by decide +kernel
theorem dL_law_662 : decode cL_law 662 = .ok (.ifCond .eq 7, 3) := by decide +kernel
theorem dL_law_665 : decode cL_law 665 = .ok (.iconst 1, 1) := by decide +kernel
theorem dL_law_666 : decode cL_law 666 = .ok (.goto 4, 3) := by decide +kernel
theorem dL_law_669 : decode cL_law 669 = .ok (.iconst 0, 1) := by decide +kernel
theorem dL_law_670 : decode cL_law 670 = .ok (.invokevirtual 113, 3) := by decide +kernel
theorem dL_law_673 : decode cL_law 673 = .ok (.istore 6, 2) := by decide +kernel
theorem dL_law_675 : decode cL_law 675 = .ok (.aload_n 2, 1) := by decide +kernel
theorem dL_law_676 : decode cL_law 676 = .ok (.invokevirtual 85, 3) := by decide +kernel
theorem dL_law_679 : decode cL_law 679 = .ok (.iload 5, 2) := by decide +kernel
theorem dL_law_681 : decode cL_law 681 = .ok (.if_icmp .eq 5, 3) := by decide +kernel
theorem dL_law_684 : decode cL_law 684 = .ok (.iconst 0, 1) := by decide +kernel
theorem dL_law_685 : decode cL_law 685 = .ok (.ireturn, 1) := by decide +kernel
theorem dL_law_686 : decode cL_law 686 = .ok (.iload 5, 2) := by decide +kernel
theorem dL_law_688 : decode cL_law 688 = .ok (.ifCond .ne 15, 3) := by decide +kernel
theorem dL_law_691 : decode cL_law 691 = .ok (.aload_n 3, 1) := by decide +kernel
theorem dL_law_692 : decode cL_law 692 = .ok (.iconst 0, 1) := by decide +kernel
theorem dL_law_693 : decode cL_law 693 = .ok (.laload, 1) := by decide +kernel
theorem dL_law_694 : decode cL_law 694 = .ok (.iload 6, 2) := by decide +kernel
theorem dL_law_696 : decode cL_law 696 = .ok (.i2l, 1) := by decide +kernel
theorem dL_law_697 : decode cL_law 697 = .ok (.lcmp, 1) := by decide +kernel
theorem dL_law_698 : decode cL_law 698 = .ok (.ifCond .eq 5, 3) := by decide +kernel
theorem dL_law_701 : decode cL_law 701 = .ok (.iconst 0, 1) := by decide +kernel
theorem dL_law_702 : decode cL_law 702 = .ok (.ireturn, 1) := by decide +kernel
theorem dL_law_703 : decode cL_law 703 = .ok (.goto 693, 3) := by decide +kernel
theorem dL_law_706 : decode cL_law 706 = .ok (.aload_n 1, 1) := by decide +kernel
theorem dL_law_707 : decode cL_law 707 = .ok (.aload_n 0, 1) := by decide +kernel
theorem dL_law_708 : decode cL_law 708 = .ok (.iload 4, 2) := by decide +kernel
theorem dL_law_710 : decode cL_law 710 = .ok (.iconst 1, 1) := by decide +kernel
theorem dL_law_711 : decode cL_law 711 = .ok (.iadd, 1) := by decide +kernel
theorem dL_law_712 : decode cL_law 712 = .ok (.iaload, 1) := by decide +kernel
theorem dL_law_713 : decode cL_law 713 = .ok (.aload_n 0, 1) := by decide +kernel
theorem dL_law_714 : decode cL_law 714 = .ok (.iload 4, 2) := by decide +kernel
theorem dL_law_716 : decode cL_law 716 = .ok (.iconst 2, 1) := by decide +kernel
theorem dL_law_717 : decode cL_law 717 = .ok (.iadd, 1) := by decide +kernel
theorem dL_law_718 : decode cL_law 718 = .ok (.iaload, 1) := by decide +kernel
theorem dL_law_719 : decode cL_law 719 = .ok (.aload_n 3, 1) := by decide +kernel
theorem dL_law_720 : decode cL_law 720 = .ok (.invokestatic 114, 3) := by decide +kernel
theorem dL_law_723 : decode cL_law 723 = .ok (.istore 5, 2) := by decide +kernel
theorem dL_law_725 : decode cL_law 725 = .ok (.aload_n 2, 1) := by decide +kernel
theorem dL_law_726 : decode cL_law 726 = .ok (.aload_n 0, 1) := by decide +kernel
theorem dL_law_727 : decode cL_law 727 = .ok (.iload 4, 2) := by decide +kernel
theorem dL_law_729 : decode cL_law 729 = .ok (.iconst 1, 1) := by decide +kernel
theorem dL_law_730 : decode cL_law 730 = .ok (.iadd, 1) := by decide +kernel
theorem dL_law_731 : decode cL_law 731 = .ok (.iaload, 1) := by decide +kernel
theorem dL_law_732 : decode cL_law 732 = .ok (.aload_n 0, 1) := by decide +kernel
theorem dL_law_733 : decode cL_law 733 = .ok (.iload 4, 2) := by decide +kernel
theorem dL_law_735 : decode cL_law 735 = .ok (.iconst 2, 1) := by decide +kernel
theorem dL_law_736 : decode cL_law 736 = .ok (.iadd, 1) := by decide +kernel
theorem dL_law_737 : decode cL_law 737 = .ok (.iaload, 1) := by decide +kernel
theorem dL_law_738 : decode cL_law 738 = .ok (.invokevirtual 116, 3) := by decide +kernel
theorem dL_law_741 : decode cL_law 741 = .ok (.istore 6, 2) := by decide +kernel
theorem dL_law_743 : decode cL_law 743 = .ok (.aload_n 2, 1) := by decide +kernel
theorem dL_law_744 : decode cL_law 744 = .ok (.invokevirtual 85, 3) := by decide +kernel
theorem dL_law_747 : decode cL_law 747 = .ok (.iload 5, 2) := by decide +kernel
theorem dL_law_749 : decode cL_law 749 = .ok (.if_icmp .eq 5, 3) := by decide +kernel
theorem dL_law_752 : decode cL_law 752 = .ok (.iconst 0, 1) := by decide +kernel
theorem dL_law_753 : decode cL_law 753 = .ok (.ireturn, 1) := by decide +kernel
theorem dL_law_754 : decode cL_law 754 = .ok (.iload 5, 2) := by decide +kernel
theorem dL_law_756 : decode cL_law 756 = .ok (.ifCond .ne 22, 3) := by decide +kernel
theorem dL_law_759 : decode cL_law 759 = .ok (.aload_n 3, 1) := by decide +kernel
theorem dL_law_760 : decode cL_law 760 = .ok (.iconst 0, 1) := by decide +kernel
theorem dL_law_761 : decode cL_law 761 = .ok (.laload, 1) := by decide +kernel
theorem dL_law_762 : decode cL_law 762 = .ok (.iload 6, 2) := by decide +kernel
theorem dL_law_764 : decode cL_law 764 = .ok (.ifCond .eq 7, 3) := by decide +kernel
theorem dL_law_767 : decode cL_law 767 = .ok (.lconst 1, 1) := by decide +kernel
theorem dL_law_768 : decode cL_law 768 = .ok (.goto 4, 3) := by decide +kernel
theorem dL_law_771 : decode cL_law 771 = .ok (.lconst 0, 1) := by decide +kernel
theorem dL_law_772 : decode cL_law 772 = .ok (.lcmp, 1) := by decide +kernel
theorem dL_law_773 : decode cL_law 773 = .ok (.ifCond .eq 5, 3) := by decide +kernel
theorem dL_law_776 : decode cL_law 776 = .ok (.iconst 0, 1) := by decide +kernel
theorem dL_law_777 : decode cL_law 777 = .ok (.ireturn, 1) := by decide +kernel
theorem dL_law_778 : decode cL_law 778 = .ok (.goto 618, 3) := by decide +kernel
theorem dL_law_781 : decode cL_law 781 = .ok (.aload_n 1, 1) := by decide +kernel
theorem dL_law_782 : decode cL_law 782 = .ok (.aload_n 0, 1) := by decide +kernel
theorem dL_law_783 : decode cL_law 783 = .ok (.iload 4, 2) := by decide +kernel
theorem dL_law_785 : decode cL_law 785 = .ok (.iconst 1, 1) := by decide +kernel
theorem dL_law_786 : decode cL_law 786 = .ok (.iadd, 1) := by decide +kernel
theorem dL_law_787 : decode cL_law 787 = .ok (.iaload, 1) := by decide +kernel
theorem dL_law_788 : decode cL_law 788 = .ok (.aload_n 0, 1) := by decide +kernel
theorem dL_law_789 : decode cL_law 789 = .ok (.iload 4, 2) := by decide +kernel
theorem dL_law_791 : decode cL_law 791 = .ok (.iconst 2, 1) := by decide +kernel
theorem dL_law_792 : decode cL_law 792 = .ok (.iadd, 1) := by decide +kernel
theorem dL_law_793 : decode cL_law 793 = .ok (.iaload, 1) := by decide +kernel
theorem dL_law_794 : decode cL_law 794 = .ok (.aload_n 0, 1) := by decide +kernel
theorem dL_law_795 : decode cL_law 795 = .ok (.iload 4, 2) := by decide +kernel
theorem dL_law_797 : decode cL_law 797 = .ok (.iconst 3, 1) := by decide +kernel
theorem dL_law_798 : decode cL_law 798 = .ok (.iadd, 1) := by decide +kernel
theorem dL_law_799 : decode cL_law 799 = .ok (.iaload, 1) := by decide +kernel
theorem dL_law_800 : decode cL_law 800 = .ok (.aload_n 3, 1) := by decide +kernel
theorem dL_law_801 : decode cL_law 801 = .ok (.invokestatic 117, 3) := by decide +kernel
theorem dL_law_804 : decode cL_law 804 = .ok (.istore 5, 2) := by decide +kernel
theorem dL_law_806 : decode cL_law 806 = .ok (.aload_n 2, 1) := by decide +kernel
theorem dL_law_807 : decode cL_law 807 = .ok (.aload_n 0, 1) := by decide +kernel
theorem dL_law_808 : decode cL_law 808 = .ok (.iload 4, 2) := by decide +kernel
theorem dL_law_810 : decode cL_law 810 = .ok (.iconst 1, 1) := by decide +kernel
theorem dL_law_811 : decode cL_law 811 = .ok (.iadd, 1) := by decide +kernel
theorem dL_law_812 : decode cL_law 812 = .ok (.iaload, 1) := by decide +kernel
theorem dL_law_813 : decode cL_law 813 = .ok (.aload_n 0, 1) := by decide +kernel
theorem dL_law_814 : decode cL_law 814 = .ok (.iload 4, 2) := by decide +kernel
theorem dL_law_816 : decode cL_law 816 = .ok (.iconst 2, 1) := by decide +kernel
theorem dL_law_817 : decode cL_law 817 = .ok (.iadd, 1) := by decide +kernel
theorem dL_law_818 : decode cL_law 818 = .ok (.iaload, 1) := by decide +kernel
theorem dL_law_819 : decode cL_law 819 = .ok (.aload_n 0, 1) := by decide +kernel
theorem dL_law_820 : decode cL_law 820 = .ok (.iload 4, 2) := by decide +kernel
theorem dL_law_822 : decode cL_law 822 = .ok (.iconst 3, 1) := by decide +kernel
theorem dL_law_823 : decode cL_law 823 = .ok (.iadd, 1) := by decide +kernel
theorem dL_law_824 : decode cL_law 824 = .ok (.iaload, 1) := by decide +kernel
theorem dL_law_825 : decode cL_law 825 = .ok (.invokevirtual 119, 3) := by decide +kernel
theorem dL_law_828 : decode cL_law 828 = .ok (.istore 6, 2) := by decide +kernel
theorem dL_law_830 : decode cL_law 830 = .ok (.aload_n 2, 1) := by decide +kernel
theorem dL_law_831 : decode cL_law 831 = .ok (.invokevirtual 85, 3) := by decide +kernel
theorem dL_law_834 : decode cL_law 834 = .ok (.iload 5, 2) := by decide +kernel
theorem dL_law_836 : decode cL_law 836 = .ok (.if_icmp .eq 5, 3) := by decide +kernel
theorem dL_law_839 : decode cL_law 839 = .ok (.iconst 0, 1) := by decide +kernel
theorem dL_law_840 : decode cL_law 840 = .ok (.ireturn, 1) := by decide +kernel
theorem dL_law_841 : decode cL_law 841 = .ok (.iload 5, 2) := by decide +kernel
theorem dL_law_843 : decode cL_law 843 = .ok (.ifCond .ne 15, 3) := by decide +kernel
theorem dL_law_846 : decode cL_law 846 = .ok (.aload_n 3, 1) := by decide +kernel
theorem dL_law_847 : decode cL_law 847 = .ok (.iconst 0, 1) := by decide +kernel
theorem dL_law_848 : decode cL_law 848 = .ok (.laload, 1) := by decide +kernel
theorem dL_law_849 : decode cL_law 849 = .ok (.iload 6, 2) := by decide +kernel
theorem dL_law_851 : decode cL_law 851 = .ok (.i2l, 1) := by decide +kernel
theorem dL_law_852 : decode cL_law 852 = .ok (.lcmp, 1) := by decide +kernel
theorem dL_law_853 : decode cL_law 853 = .ok (.ifCond .eq 5, 3) := by decide +kernel
theorem dL_law_856 : decode cL_law 856 = .ok (.iconst 0, 1) := by decide +kernel
theorem dL_law_857 : decode cL_law 857 = .ok (.ireturn, 1) := by decide +kernel
theorem dL_law_858 : decode cL_law 858 = .ok (.goto 538, 3) := by decide +kernel
theorem dL_law_861 : decode cL_law 861 = .ok (.aload_n 1, 1) := by decide +kernel
theorem dL_law_862 : decode cL_law 862 = .ok (.aload_n 0, 1) := by decide +kernel
theorem dL_law_863 : decode cL_law 863 = .ok (.iload 4, 2) := by decide +kernel
theorem dL_law_865 : decode cL_law 865 = .ok (.iconst 1, 1) := by decide +kernel
theorem dL_law_866 : decode cL_law 866 = .ok (.iadd, 1) := by decide +kernel
theorem dL_law_867 : decode cL_law 867 = .ok (.iaload, 1) := by decide +kernel
theorem dL_law_868 : decode cL_law 868 = .ok (.aload_n 0, 1) := by decide +kernel
theorem dL_law_869 : decode cL_law 869 = .ok (.iload 4, 2) := by decide +kernel
theorem dL_law_871 : decode cL_law 871 = .ok (.iconst 2, 1) := by decide +kernel
theorem dL_law_872 : decode cL_law 872 = .ok (.iadd, 1) := by decide +kernel
theorem dL_law_873 : decode cL_law 873 = .ok (.iaload, 1) := by decide +kernel
theorem dL_law_874 : decode cL_law 874 = .ok (.aload_n 0, 1) := by decide +kernel
theorem dL_law_875 : decode cL_law 875 = .ok (.iload 4, 2) := by decide +kernel
theorem dL_law_877 : decode cL_law 877 = .ok (.iconst 3, 1) := by decide +kernel
theorem dL_law_878 : decode cL_law 878 = .ok (.iadd, 1) := by decide +kernel
theorem dL_law_879 : decode cL_law 879 = .ok (.iaload, 1) := by decide +kernel
theorem dL_law_880 : decode cL_law 880 = .ok (.aload_n 3, 1) := by decide +kernel
theorem dL_law_881 : decode cL_law 881 = .ok (.invokestatic 120, 3) := by decide +kernel
theorem dL_law_884 : decode cL_law 884 = .ok (.istore 5, 2) := by decide +kernel
theorem dL_law_886 : decode cL_law 886 = .ok (.aload_n 2, 1) := by decide +kernel
theorem dL_law_887 : decode cL_law 887 = .ok (.aload_n 0, 1) := by decide +kernel
theorem dL_law_888 : decode cL_law 888 = .ok (.iload 4, 2) := by decide +kernel
theorem dL_law_890 : decode cL_law 890 = .ok (.iconst 1, 1) := by decide +kernel
theorem dL_law_891 : decode cL_law 891 = .ok (.iadd, 1) := by decide +kernel
theorem dL_law_892 : decode cL_law 892 = .ok (.iaload, 1) := by decide +kernel
theorem dL_law_893 : decode cL_law 893 = .ok (.aload_n 0, 1) := by decide +kernel
theorem dL_law_894 : decode cL_law 894 = .ok (.iload 4, 2) := by decide +kernel
theorem dL_law_896 : decode cL_law 896 = .ok (.iconst 2, 1) := by decide +kernel
theorem dL_law_897 : decode cL_law 897 = .ok (.iadd, 1) := by decide +kernel
theorem dL_law_898 : decode cL_law 898 = .ok (.iaload, 1) := by decide +kernel
theorem dL_law_899 : decode cL_law 899 = .ok (.aload_n 0, 1) := by decide +kernel
theorem dL_law_900 : decode cL_law 900 = .ok (.iload 4, 2) := by decide +kernel
theorem dL_law_902 : decode cL_law 902 = .ok (.iconst 3, 1) := by decide +kernel
theorem dL_law_903 : decode cL_law 903 = .ok (.iadd, 1) := by decide +kernel
theorem dL_law_904 : decode cL_law 904 = .ok (.iaload, 1) := by decide +kernel
theorem dL_law_905 : decode cL_law 905 = .ok (.invokevirtual 122, 3) := by decide +kernel
theorem dL_law_908 : decode cL_law 908 = .ok (.istore 6, 2) := by decide +kernel
theorem dL_law_910 : decode cL_law 910 = .ok (.aload_n 2, 1) := by decide +kernel
theorem dL_law_911 : decode cL_law 911 = .ok (.invokevirtual 85, 3) := by decide +kernel
theorem dL_law_914 : decode cL_law 914 = .ok (.iload 5, 2) := by decide +kernel
theorem dL_law_916 : decode cL_law 916 = .ok (.if_icmp .eq 5, 3) := by decide +kernel
theorem dL_law_919 : decode cL_law 919 = .ok (.iconst 0, 1) := by decide +kernel
theorem dL_law_920 : decode cL_law 920 = .ok (.ireturn, 1) := by decide +kernel
theorem dL_law_921 : decode cL_law 921 = .ok (.iload 5, 2) := by decide +kernel
theorem dL_law_923 : decode cL_law 923 = .ok (.ifCond .ne 22, 3) := by decide +kernel
theorem dL_law_926 : decode cL_law 926 = .ok (.aload_n 3, 1) := by decide +kernel
theorem dL_law_927 : decode cL_law 927 = .ok (.iconst 0, 1) := by decide +kernel
theorem dL_law_928 : decode cL_law 928 = .ok (.laload, 1) := by decide +kernel
theorem dL_law_929 : decode cL_law 929 = .ok (.iload 6, 2) := by decide +kernel
theorem dL_law_931 : decode cL_law 931 = .ok (.ifCond .eq 7, 3) := by decide +kernel
theorem dL_law_934 : decode cL_law 934 = .ok (.lconst 1, 1) := by decide +kernel
theorem dL_law_935 : decode cL_law 935 = .ok (.goto 4, 3) := by decide +kernel
theorem dL_law_938 : decode cL_law 938 = .ok (.lconst 0, 1) := by decide +kernel
theorem dL_law_939 : decode cL_law 939 = .ok (.lcmp, 1) := by decide +kernel
theorem dL_law_940 : decode cL_law 940 = .ok (.ifCond .eq 5, 3) := by decide +kernel
theorem dL_law_943 : decode cL_law 943 = .ok (.iconst 0, 1) := by decide +kernel
theorem dL_law_944 : decode cL_law 944 = .ok (.ireturn, 1) := by decide +kernel
theorem dL_law_945 : decode cL_law 945 = .ok (.goto 451, 3) := by decide +kernel
theorem dL_law_948 : decode cL_law 948 = .ok (.aload_n 1, 1) := by decide +kernel
theorem dL_law_949 : decode cL_law 949 = .ok (.aload_n 0, 1) := by decide +kernel
theorem dL_law_950 : decode cL_law 950 = .ok (.iload 4, 2) := by decide +kernel
theorem dL_law_952 : decode cL_law 952 = .ok (.iconst 1, 1) := by decide +kernel
theorem dL_law_953 : decode cL_law 953 = .ok (.iadd, 1) := by decide +kernel
theorem dL_law_954 : decode cL_law 954 = .ok (.iaload, 1) := by decide +kernel
theorem dL_law_955 : decode cL_law 955 = .ok (.aload_n 0, 1) := by decide +kernel
theorem dL_law_956 : decode cL_law 956 = .ok (.iload 4, 2) := by decide +kernel
theorem dL_law_958 : decode cL_law 958 = .ok (.iconst 2, 1) := by decide +kernel
theorem dL_law_959 : decode cL_law 959 = .ok (.iadd, 1) := by decide +kernel
theorem dL_law_960 : decode cL_law 960 = .ok (.iaload, 1) := by decide +kernel
theorem dL_law_961 : decode cL_law 961 = .ok (.aload_n 3, 1) := by decide +kernel
theorem dL_law_962 : decode cL_law 962 = .ok (.invokestatic 123, 3) := by decide +kernel
theorem dL_law_965 : decode cL_law 965 = .ok (.istore 5, 2) := by decide +kernel
theorem dL_law_967 : decode cL_law 967 = .ok (.aload_n 2, 1) := by decide +kernel
theorem dL_law_968 : decode cL_law 968 = .ok (.aload_n 0, 1) := by decide +kernel
theorem dL_law_969 : decode cL_law 969 = .ok (.iload 4, 2) := by decide +kernel
theorem dL_law_971 : decode cL_law 971 = .ok (.iconst 1, 1) := by decide +kernel
theorem dL_law_972 : decode cL_law 972 = .ok (.iadd, 1) := by decide +kernel
theorem dL_law_973 : decode cL_law 973 = .ok (.iaload, 1) := by decide +kernel
theorem dL_law_974 : decode cL_law 974 = .ok (.aload_n 0, 1) := by decide +kernel
theorem dL_law_975 : decode cL_law 975 = .ok (.iload 4, 2) := by decide +kernel
theorem dL_law_977 : decode cL_law 977 = .ok (.iconst 2, 1) := by decide +kernel
theorem dL_law_978 : decode cL_law 978 = .ok (.iadd, 1) := by decide +kernel
theorem dL_law_979 : decode cL_law 979 = .ok (.iaload, 1) := by decide +kernel
theorem dL_law_980 : decode cL_law 980 = .ok (.invokevirtual 125, 3) := by decide +kernel
theorem dL_law_983 : decode cL_law 983 = .ok (.istore 6, 2) := by decide +kernel
theorem dL_law_985 : decode cL_law 985 = .ok (.aload_n 2, 1) := by decide +kernel
theorem dL_law_986 : decode cL_law 986 = .ok (.invokevirtual 85, 3) := by decide +kernel
theorem dL_law_989 : decode cL_law 989 = .ok (.iload 5, 2) := by decide +kernel
theorem dL_law_991 : decode cL_law 991 = .ok (.if_icmp .eq 5, 3) := by decide +kernel
theorem dL_law_994 : decode cL_law 994 = .ok (.iconst 0, 1) := by decide +kernel
theorem dL_law_995 : decode cL_law 995 = .ok (.ireturn, 1) := by decide +kernel
theorem dL_law_996 : decode cL_law 996 = .ok (.iload 5, 2) := by decide +kernel
theorem dL_law_998 : decode cL_law 998 = .ok (.ifCond .ne 15, 3) := by decide +kernel
theorem dL_law_1001 : decode cL_law 1001 = .ok (.aload_n 3, 1) := by decide +kernel
theorem dL_law_1002 : decode cL_law 1002 = .ok (.iconst 0, 1) := by decide +kernel
theorem dL_law_1003 : decode cL_law 1003 = .ok (.laload, 1) := by decide +kernel
theorem dL_law_1004 : decode cL_law 1004 = .ok (.iload 6, 2) := by decide +kernel
theorem dL_law_1006 : decode cL_law 1006 = .ok (.i2l, 1) := by decide +kernel
theorem dL_law_1007 : decode cL_law 1007 = .ok (.lcmp, 1) := by decide +kernel
theorem dL_law_1008 : decode cL_law 1008 = .ok (.ifCond .eq 5, 3) := by decide +kernel
theorem dL_law_1011 : decode cL_law 1011 = .ok (.iconst 0, 1) := by decide +kernel
theorem dL_law_1012 : decode cL_law 1012 = .ok (.ireturn, 1) := by decide +kernel
theorem dL_law_1013 : decode cL_law 1013 = .ok (.goto 383, 3) := by decide +kernel
theorem dL_law_1016 : decode cL_law 1016 = .ok (.aload_n 1, 1) := by decide +kernel
theorem dL_law_1017 : decode cL_law 1017 = .ok (.invokevirtual 126, 3) := by decide +kernel
theorem dL_law_1020 : decode cL_law 1020 = .ok (.aload_n 2, 1) := by decide +kernel
theorem dL_law_1021 : decode cL_law 1021 = .ok (.invokevirtual 129, 3) := by decide +kernel
theorem dL_law_1024 : decode cL_law 1024 = .ok (.if_icmp .eq 372, 3) := by decide +kernel
theorem dL_law_1027 : decode cL_law 1027 = .ok (.iconst 0, 1) := by decide +kernel
theorem dL_law_1028 : decode cL_law 1028 = .ok (.ireturn, 1) := by decide +kernel
theorem dL_law_1029 : decode cL_law 1029 = .ok (.aload_n 1, 1) := by decide +kernel
theorem dL_law_1030 : decode cL_law 1030 = .ok (.invokevirtual 130, 3) := by decide +kernel
theorem dL_law_1033 : decode cL_law 1033 = .ok (.aload_n 2, 1) := by decide +kernel
theorem dL_law_1034 : decode cL_law 1034 = .ok (.invokevirtual 133, 3) := by decide +kernel
theorem dL_law_1037 : decode cL_law 1037 = .ok (.if_icmp .eq 359, 3) := by decide +kernel
theorem dL_law_1040 : decode cL_law 1040 = .ok (.iconst 0, 1) := by decide +kernel
theorem dL_law_1041 : decode cL_law 1041 = .ok (.ireturn, 1) := by decide +kernel
theorem dL_law_1042 : decode cL_law 1042 = .ok (.aload_n 1, 1) := by decide +kernel
theorem dL_law_1043 : decode cL_law 1043 = .ok (.aload_n 3, 1) := by decide +kernel
theorem dL_law_1044 : decode cL_law 1044 = .ok (.invokestatic 134, 3) := by decide +kernel
theorem dL_law_1047 : decode cL_law 1047 = .ok (.istore 5, 2) := by decide +kernel
theorem dL_law_1049 : decode cL_law 1049 = .ok (.aload_n 2, 1) := by decide +kernel
theorem dL_law_1050 : decode cL_law 1050 = .ok (.invokevirtual 136, 3) := by decide +kernel
theorem dL_law_1053 : decode cL_law 1053 = .ok (.istore 6, 2) := by decide +kernel
theorem dL_law_1055 : decode cL_law 1055 = .ok (.aload_n 2, 1) := by decide +kernel
theorem dL_law_1056 : decode cL_law 1056 = .ok (.invokevirtual 85, 3) := by decide +kernel
theorem dL_law_1059 : decode cL_law 1059 = .ok (.iload 5, 2) := by decide +kernel
theorem dL_law_1061 : decode cL_law 1061 = .ok (.if_icmp .eq 5, 3) := by decide +kernel
theorem dL_law_1064 : decode cL_law 1064 = .ok (.iconst 0, 1) := by decide +kernel
theorem dL_law_1065 : decode cL_law 1065 = .ok (.ireturn, 1) := by decide +kernel
theorem dL_law_1066 : decode cL_law 1066 = .ok (.iload 5, 2) := by decide +kernel
theorem dL_law_1068 : decode cL_law 1068 = .ok (.ifCond .ne 15, 3) := by decide +kernel
theorem dL_law_1071 : decode cL_law 1071 = .ok (.aload_n 3, 1) := by decide +kernel
theorem dL_law_1072 : decode cL_law 1072 = .ok (.iconst 0, 1) := by decide +kernel
theorem dL_law_1073 : decode cL_law 1073 = .ok (.laload, 1) := by decide +kernel
theorem dL_law_1074 : decode cL_law 1074 = .ok (.iload 6, 2) := by decide +kernel
theorem dL_law_1076 : decode cL_law 1076 = .ok (.i2l, 1) := by decide +kernel
theorem dL_law_1077 : decode cL_law 1077 = .ok (.lcmp, 1) := by decide +kernel
theorem dL_law_1078 : decode cL_law 1078 = .ok (.ifCond .eq 5, 3) := by decide +kernel
theorem dL_law_1081 : decode cL_law 1081 = .ok (.iconst 0, 1) := by decide +kernel
theorem dL_law_1082 : decode cL_law 1082 = .ok (.ireturn, 1) := by decide +kernel
theorem dL_law_1083 : decode cL_law 1083 = .ok (.goto 313, 3) := by decide +kernel
theorem dL_law_1086 : decode cL_law 1086 = .ok (.aload_n 1, 1) := by decide +kernel
theorem dL_law_1087 : decode cL_law 1087 = .ok (.aload_n 0, 1) := by decide +kernel
theorem dL_law_1088 : decode cL_law 1088 = .ok (.iload 4, 2) := by decide +kernel
theorem dL_law_1090 : decode cL_law 1090 = .ok (.iconst 1, 1) := by decide +kernel
theorem dL_law_1091 : decode cL_law 1091 = .ok (.iadd, 1) := by decide +kernel
theorem dL_law_1092 : decode cL_law 1092 = .ok (.iaload, 1) := by decide +kernel
theorem dL_law_1093 : decode cL_law 1093 = .ok (.aload_n 0, 1) := by decide +kernel
theorem dL_law_1094 : decode cL_law 1094 = .ok (.iload 4, 2) := by decide +kernel
theorem dL_law_1096 : decode cL_law 1096 = .ok (.iconst 2, 1) := by decide +kernel
theorem dL_law_1097 : decode cL_law 1097 = .ok (.iadd, 1) := by decide +kernel
theorem dL_law_1098 : decode cL_law 1098 = .ok (.iaload, 1) := by decide +kernel
theorem dL_law_1099 : decode cL_law 1099 = .ok (.aload_n 3, 1) := by decide +kernel
theorem dL_law_1100 : decode cL_law 1100 = .ok (.invokestatic 137, 3) := by decide +kernel
theorem dL_law_1103 : decode cL_law 1103 = .ok (.istore 5, 2) := by decide +kernel
theorem dL_law_1105 : decode cL_law 1105 = .ok (.aload_n 2, 1) := by decide +kernel
theorem dL_law_1106 : decode cL_law 1106 = .ok (.aload_n 0, 1) := by decide +kernel
theorem dL_law_1107 : decode cL_law 1107 = .ok (.iload 4, 2) := by decide +kernel
theorem dL_law_1109 : decode cL_law 1109 = .ok (.iconst 1, 1) := by decide +kernel
theorem dL_law_1110 : decode cL_law 1110 = .ok (.iadd, 1) := by decide +kernel
theorem dL_law_1111 : decode cL_law 1111 = .ok (.iaload, 1) := by decide +kernel
theorem dL_law_1112 : decode cL_law 1112 = .ok (.aload_n 0, 1) := by decide +kernel
theorem dL_law_1113 : decode cL_law 1113 = .ok (.iload 4, 2) := by decide +kernel
theorem dL_law_1115 : decode cL_law 1115 = .ok (.iconst 2, 1) := by decide +kernel
theorem dL_law_1116 : decode cL_law 1116 = .ok (.iadd, 1) := by decide +kernel
theorem dL_law_1117 : decode cL_law 1117 = .ok (.iaload, 1) := by decide +kernel
theorem dL_law_1118 : decode cL_law 1118 = .ok (.invokevirtual 139, 3) := by decide +kernel
theorem dL_law_1121 : decode cL_law 1121 = .ok (.istore 6, 2) := by decide +kernel
theorem dL_law_1123 : decode cL_law 1123 = .ok (.aload_n 2, 1) := by decide +kernel
theorem dL_law_1124 : decode cL_law 1124 = .ok (.invokevirtual 85, 3) := by decide +kernel
theorem dL_law_1127 : decode cL_law 1127 = .ok (.iload 5, 2) := by decide +kernel
theorem dL_law_1129 : decode cL_law 1129 = .ok (.if_icmp .eq 5, 3) := by decide +kernel
theorem dL_law_1132 : decode cL_law 1132 = .ok (.iconst 0, 1) := by decide +kernel
theorem dL_law_1133 : decode cL_law 1133 = .ok (.ireturn, 1) := by decide +kernel
theorem dL_law_1134 : decode cL_law 1134 = .ok (.iload 5, 2) := by decide +kernel
theorem dL_law_1136 : decode cL_law 1136 = .ok (.ifCond .ne 15, 3) := by decide +kernel
theorem dL_law_1139 : decode cL_law 1139 = .ok (.aload_n 3, 1) := by decide +kernel
theorem dL_law_1140 : decode cL_law 1140 = .ok (.iconst 0, 1) := by decide +kernel
theorem dL_law_1141 : decode cL_law 1141 = .ok (.laload, 1) := by decide +kernel
theorem dL_law_1142 : decode cL_law 1142 = .ok (.iload 6, 2) := by decide +kernel
theorem dL_law_1144 : decode cL_law 1144 = .ok (.i2l, 1) := by decide +kernel
theorem dL_law_1145 : decode cL_law 1145 = .ok (.lcmp, 1) := by decide +kernel
theorem dL_law_1146 : decode cL_law 1146 = .ok (.ifCond .eq 5, 3) := by decide +kernel
theorem dL_law_1149 : decode cL_law 1149 = .ok (.iconst 0, 1) := by decide +kernel
theorem dL_law_1150 : decode cL_law 1150 = .ok (.ireturn, 1) := by decide +kernel
theorem dL_law_1151 : decode cL_law 1151 = .ok (.goto 245, 3) := by decide +kernel
theorem dL_law_1154 : decode cL_law 1154 = .ok (.aload_n 1, 1) := by decide +kernel
theorem dL_law_1155 : decode cL_law 1155 = .ok (.aload_n 0, 1) := by decide +kernel
theorem dL_law_1156 : decode cL_law 1156 = .ok (.iload 4, 2) := by decide +kernel
theorem dL_law_1158 : decode cL_law 1158 = .ok (.iconst 1, 1) := by decide +kernel
theorem dL_law_1159 : decode cL_law 1159 = .ok (.iadd, 1) := by decide +kernel
theorem dL_law_1160 : decode cL_law 1160 = .ok (.iaload, 1) := by decide +kernel
theorem dL_law_1161 : decode cL_law 1161 = .ok (.aload_n 3, 1) := by decide +kernel
theorem dL_law_1162 : decode cL_law 1162 = .ok (.invokestatic 140, 3) := by decide +kernel
theorem dL_law_1165 : decode cL_law 1165 = .ok (.istore 5, 2) := by decide +kernel
theorem dL_law_1167 : decode cL_law 1167 = .ok (.aload_n 2, 1) := by decide +kernel
theorem dL_law_1168 : decode cL_law 1168 = .ok (.aload_n 0, 1) := by decide +kernel
theorem dL_law_1169 : decode cL_law 1169 = .ok (.iload 4, 2) := by decide +kernel
theorem dL_law_1171 : decode cL_law 1171 = .ok (.iconst 1, 1) := by decide +kernel
theorem dL_law_1172 : decode cL_law 1172 = .ok (.iadd, 1) := by decide +kernel
theorem dL_law_1173 : decode cL_law 1173 = .ok (.iaload, 1) := by decide +kernel
theorem dL_law_1174 : decode cL_law 1174 = .ok (.invokevirtual 142, 3) := by decide +kernel
theorem dL_law_1177 : decode cL_law 1177 = .ok (.istore 6, 2) := by decide +kernel
theorem dL_law_1179 : decode cL_law 1179 = .ok (.aload_n 2, 1) := by decide +kernel
theorem dL_law_1180 : decode cL_law 1180 = .ok (.invokevirtual 85, 3) := by decide +kernel
theorem dL_law_1183 : decode cL_law 1183 = .ok (.iload 5, 2) := by decide +kernel
theorem dL_law_1185 : decode cL_law 1185 = .ok (.if_icmp .eq 5, 3) := by decide +kernel
theorem dL_law_1188 : decode cL_law 1188 = .ok (.iconst 0, 1) := by decide +kernel
theorem dL_law_1189 : decode cL_law 1189 = .ok (.ireturn, 1) := by decide +kernel
theorem dL_law_1190 : decode cL_law 1190 = .ok (.iload 5, 2) := by decide +kernel
theorem dL_law_1192 : decode cL_law 1192 = .ok (.ifCond .ne 15, 3) := by decide +kernel
theorem dL_law_1195 : decode cL_law 1195 = .ok (.aload_n 3, 1) := by decide +kernel
theorem dL_law_1196 : decode cL_law 1196 = .ok (.iconst 0, 1) := by decide +kernel
theorem dL_law_1197 : decode cL_law 1197 = .ok (.laload, 1) := by decide +kernel
theorem dL_law_1198 : decode cL_law 1198 = .ok (.iload 6, 2) := by decide +kernel
theorem dL_law_1200 : decode cL_law 1200 = .ok (.i2l, 1) := by decide +kernel
theorem dL_law_1201 : decode cL_law 1201 = .ok (.lcmp, 1) := by decide +kernel
theorem dL_law_1202 : decode cL_law 1202 = .ok (.ifCond .eq 5, 3) := by decide +kernel
theorem dL_law_1205 : decode cL_law 1205 = .ok (.iconst 0, 1) := by decide +kernel
theorem dL_law_1206 : decode cL_law 1206 = .ok (.ireturn, 1) := by decide +kernel
theorem dL_law_1207 : decode cL_law 1207 = .ok (.goto 189, 3) := by decide +kernel
theorem dL_law_1210 : decode cL_law 1210 = .ok (.aload_n 1, 1) := by decide +kernel
theorem dL_law_1211 : decode cL_law 1211 = .ok (.aload_n 0, 1) := by decide +kernel
theorem dL_law_1212 : decode cL_law 1212 = .ok (.iload 4, 2) := by decide +kernel
theorem dL_law_1214 : decode cL_law 1214 = .ok (.iconst 1, 1) := by decide +kernel
theorem dL_law_1215 : decode cL_law 1215 = .ok (.iadd, 1) := by decide +kernel
theorem dL_law_1216 : decode cL_law 1216 = .ok (.iaload, 1) := by decide +kernel
theorem dL_law_1217 : decode cL_law 1217 = .ok (.aload_n 0, 1) := by decide +kernel
theorem dL_law_1218 : decode cL_law 1218 = .ok (.iload 4, 2) := by decide +kernel
theorem dL_law_1220 : decode cL_law 1220 = .ok (.iconst 2, 1) := by decide +kernel
theorem dL_law_1221 : decode cL_law 1221 = .ok (.iadd, 1) := by decide +kernel
theorem dL_law_1222 : decode cL_law 1222 = .ok (.iaload, 1) := by decide +kernel
theorem dL_law_1223 : decode cL_law 1223 = .ok (.aload_n 3, 1) := by decide +kernel
theorem dL_law_1224 : decode cL_law 1224 = .ok (.invokestatic 143, 3) := by decide +kernel
theorem dL_law_1227 : decode cL_law 1227 = .ok (.istore 5, 2) := by decide +kernel
theorem dL_law_1229 : decode cL_law 1229 = .ok (.aload_n 2, 1) := by decide +kernel
theorem dL_law_1230 : decode cL_law 1230 = .ok (.aload_n 0, 1) := by decide +kernel
theorem dL_law_1231 : decode cL_law 1231 = .ok (.iload 4, 2) := by decide +kernel
theorem dL_law_1233 : decode cL_law 1233 = .ok (.iconst 1, 1) := by decide +kernel
theorem dL_law_1234 : decode cL_law 1234 = .ok (.iadd, 1) := by decide +kernel
theorem dL_law_1235 : decode cL_law 1235 = .ok (.iaload, 1) := by decide +kernel
theorem dL_law_1236 : decode cL_law 1236 = .ok (.aload_n 0, 1) := by decide +kernel
theorem dL_law_1237 : decode cL_law 1237 = .ok (.iload 4, 2) := by decide +kernel
theorem dL_law_1239 : decode cL_law 1239 = .ok (.iconst 2, 1) := by decide +kernel
theorem dL_law_1240 : decode cL_law 1240 = .ok (.iadd, 1) := by decide +kernel
theorem dL_law_1241 : decode cL_law 1241 = .ok (.iaload, 1) := by decide +kernel
theorem dL_law_1242 : decode cL_law 1242 = .ok (.invokevirtual 145, 3) := by decide +kernel
theorem dL_law_1245 : decode cL_law 1245 = .ok (.istore 6, 2) := by decide +kernel
theorem dL_law_1247 : decode cL_law 1247 = .ok (.aload_n 2, 1) := by decide +kernel
theorem dL_law_1248 : decode cL_law 1248 = .ok (.invokevirtual 85, 3) := by decide +kernel
theorem dL_law_1251 : decode cL_law 1251 = .ok (.iload 5, 2) := by decide +kernel
theorem dL_law_1253 : decode cL_law 1253 = .ok (.if_icmp .eq 5, 3) := by decide +kernel
theorem dL_law_1256 : decode cL_law 1256 = .ok (.iconst 0, 1) := by decide +kernel
theorem dL_law_1257 : decode cL_law 1257 = .ok (.ireturn, 1) := by decide +kernel
theorem dL_law_1258 : decode cL_law 1258 = .ok (.iload 5, 2) := by decide +kernel
theorem dL_law_1260 : decode cL_law 1260 = .ok (.ifCond .ne 15, 3) := by decide +kernel
theorem dL_law_1263 : decode cL_law 1263 = .ok (.aload_n 3, 1) := by decide +kernel
theorem dL_law_1264 : decode cL_law 1264 = .ok (.iconst 0, 1) := by decide +kernel
theorem dL_law_1265 : decode cL_law 1265 = .ok (.laload, 1) := by decide +kernel
theorem dL_law_1266 : decode cL_law 1266 = .ok (.iload 6, 2) := by decide +kernel
theorem dL_law_1268 : decode cL_law 1268 = .ok (.i2l, 1) := by decide +kernel
theorem dL_law_1269 : decode cL_law 1269 = .ok (.lcmp, 1) := by decide +kernel
theorem dL_law_1270 : decode cL_law 1270 = .ok (.ifCond .eq 5, 3) := by decide +kernel
theorem dL_law_1273 : decode cL_law 1273 = .ok (.iconst 0, 1) := by decide +kernel
theorem dL_law_1274 : decode cL_law 1274 = .ok (.ireturn, 1) := by decide +kernel
theorem dL_law_1275 : decode cL_law 1275 = .ok (.goto 121, 3) := by decide +kernel
theorem dL_law_1278 : decode cL_law 1278 = .ok (.aload_n 1, 1) := by decide +kernel
theorem dL_law_1279 : decode cL_law 1279 = .ok (.aload_n 0, 1) := by decide +kernel
theorem dL_law_1280 : decode cL_law 1280 = .ok (.iload 4, 2) := by decide +kernel
theorem dL_law_1282 : decode cL_law 1282 = .ok (.iconst 1, 1) := by decide +kernel
theorem dL_law_1283 : decode cL_law 1283 = .ok (.iadd, 1) := by decide +kernel
theorem dL_law_1284 : decode cL_law 1284 = .ok (.iaload, 1) := by decide +kernel
theorem dL_law_1285 : decode cL_law 1285 = .ok (.aload_n 0, 1) := by decide +kernel
theorem dL_law_1286 : decode cL_law 1286 = .ok (.iload 4, 2) := by decide +kernel
theorem dL_law_1288 : decode cL_law 1288 = .ok (.iconst 2, 1) := by decide +kernel
theorem dL_law_1289 : decode cL_law 1289 = .ok (.iadd, 1) := by decide +kernel
theorem dL_law_1290 : decode cL_law 1290 = .ok (.iaload, 1) := by decide +kernel
theorem dL_law_1291 : decode cL_law 1291 = .ok (.aload_n 0, 1) := by decide +kernel
theorem dL_law_1292 : decode cL_law 1292 = .ok (.iload 4, 2) := by decide +kernel
theorem dL_law_1294 : decode cL_law 1294 = .ok (.iconst 3, 1) := by decide +kernel
theorem dL_law_1295 : decode cL_law 1295 = .ok (.iadd, 1) := by decide +kernel
theorem dL_law_1296 : decode cL_law 1296 = .ok (.iaload, 1) := by decide +kernel
theorem dL_law_1297 : decode cL_law 1297 = .ok (.aload_n 0, 1) := by decide +kernel
theorem dL_law_1298 : decode cL_law 1298 = .ok (.iload 4, 2) := by decide +kernel
theorem dL_law_1300 : decode cL_law 1300 = .ok (.iconst 4, 1) := by decide +kernel
theorem dL_law_1301 : decode cL_law 1301 = .ok (.iadd, 1) := by decide +kernel
theorem dL_law_1302 : decode cL_law 1302 = .ok (.iaload, 1) := by decide +kernel
theorem dL_law_1303 : decode cL_law 1303 = .ok (.aload_n 0, 1) := by decide +kernel
theorem dL_law_1304 : decode cL_law 1304 = .ok (.iload 4, 2) := by decide +kernel
theorem dL_law_1306 : decode cL_law 1306 = .ok (.iconst 5, 1) := by decide +kernel
theorem dL_law_1307 : decode cL_law 1307 = .ok (.iadd, 1) := by decide +kernel
theorem dL_law_1308 : decode cL_law 1308 = .ok (.iaload, 1) := by decide +kernel
theorem dL_law_1309 : decode cL_law 1309 = .ok (.aload_n 0, 1) := by decide +kernel
theorem dL_law_1310 : decode cL_law 1310 = .ok (.iload 4, 2) := by decide +kernel
theorem dL_law_1312 : decode cL_law 1312 = .ok (.bipush 6, 2) := by decide +kernel
theorem dL_law_1314 : decode cL_law 1314 = .ok (.iadd, 1) := by decide +kernel
theorem dL_law_1315 : decode cL_law 1315 = .ok (.iaload, 1) := by decide +kernel
theorem dL_law_1316 : decode cL_law 1316 = .ok (.aload_n 3, 1) := by decide +kernel
theorem dL_law_1317 : decode cL_law 1317 = .ok (.invokestatic 146, 3) := by decide +kernel
theorem dL_law_1320 : decode cL_law 1320 = .ok (.istore 5, 2) := by decide +kernel
theorem dL_law_1322 : decode cL_law 1322 = .ok (.aload_n 2, 1) := by decide +kernel
theorem dL_law_1323 : decode cL_law 1323 = .ok (.aload_n 0, 1) := by decide +kernel
theorem dL_law_1324 : decode cL_law 1324 = .ok (.iload 4, 2) := by decide +kernel
theorem dL_law_1326 : decode cL_law 1326 = .ok (.iconst 1, 1) := by decide +kernel
theorem dL_law_1327 : decode cL_law 1327 = .ok (.iadd, 1) := by decide +kernel
theorem dL_law_1328 : decode cL_law 1328 = .ok (.iaload, 1) := by decide +kernel
theorem dL_law_1329 : decode cL_law 1329 = .ok (.aload_n 0, 1) := by decide +kernel
theorem dL_law_1330 : decode cL_law 1330 = .ok (.iload 4, 2) := by decide +kernel
theorem dL_law_1332 : decode cL_law 1332 = .ok (.iconst 2, 1) := by decide +kernel
theorem dL_law_1333 : decode cL_law 1333 = .ok (.iadd, 1) := by decide +kernel
theorem dL_law_1334 : decode cL_law 1334 = .ok (.iaload, 1) := by decide +kernel
theorem dL_law_1335 : decode cL_law 1335 = .ok (.aload_n 0, 1) := by decide +kernel
theorem dL_law_1336 : decode cL_law 1336 = .ok (.iload 4, 2) := by decide +kernel
theorem dL_law_1338 : decode cL_law 1338 = .ok (.iconst 3, 1) := by decide +kernel
theorem dL_law_1339 : decode cL_law 1339 = .ok (.iadd, 1) := by decide +kernel
theorem dL_law_1340 : decode cL_law 1340 = .ok (.iaload, 1) := by decide +kernel
theorem dL_law_1341 : decode cL_law 1341 = .ok (.aload_n 0, 1) := by decide +kernel
theorem dL_law_1342 : decode cL_law 1342 = .ok (.iload 4, 2) := by decide +kernel
theorem dL_law_1344 : decode cL_law 1344 = .ok (.iconst 4, 1) := by decide +kernel
theorem dL_law_1345 : decode cL_law 1345 = .ok (.iadd, 1) := by decide +kernel
theorem dL_law_1346 : decode cL_law 1346 = .ok (.iaload, 1) := by decide +kernel
theorem dL_law_1347 : decode cL_law 1347 = .ok (.aload_n 0, 1) := by decide +kernel
theorem dL_law_1348 : decode cL_law 1348 = .ok (.iload 4, 2) := by decide +kernel
theorem dL_law_1350 : decode cL_law 1350 = .ok (.iconst 5, 1) := by decide +kernel
theorem dL_law_1351 : decode cL_law 1351 = .ok (.iadd, 1) := by decide +kernel
theorem dL_law_1352 : decode cL_law 1352 = .ok (.iaload, 1) := by decide +kernel
theorem dL_law_1353 : decode cL_law 1353 = .ok (.aload_n 0, 1) := by decide +kernel
theorem dL_law_1354 : decode cL_law 1354 = .ok (.iload 4, 2) := by decide +kernel
theorem dL_law_1356 : decode cL_law 1356 = .ok (.bipush 6, 2) := by decide +kernel
theorem dL_law_1358 : decode cL_law 1358 = .ok (.iadd, 1) := by decide +kernel
theorem dL_law_1359 : decode cL_law 1359 = .ok (.iaload, 1) := by decide +kernel
theorem dL_law_1360 : decode cL_law 1360 = .ok (.invokevirtual 149, 3) := by decide +kernel
theorem dL_law_1363 : decode cL_law 1363 = .ok (.istore 6, 2) := by decide +kernel
theorem dL_law_1365 : decode cL_law 1365 = .ok (.aload_n 2, 1) := by decide +kernel
theorem dL_law_1366 : decode cL_law 1366 = .ok (.invokevirtual 85, 3) := by decide +kernel
theorem dL_law_1369 : decode cL_law 1369 = .ok (.iload 5, 2) := by decide +kernel
theorem dL_law_1371 : decode cL_law 1371 = .ok (.if_icmp .eq 5, 3) := by decide +kernel
theorem dL_law_1374 : decode cL_law 1374 = .ok (.iconst 0, 1) := by decide +kernel
theorem dL_law_1375 : decode cL_law 1375 = .ok (.ireturn, 1) := by decide +kernel
theorem dL_law_1376 : decode cL_law 1376 = .ok (.iload 5, 2) := by decide +kernel
theorem dL_law_1378 : decode cL_law 1378 = .ok (.ifCond .ne 15, 3) := by decide +kernel
theorem dL_law_1381 : decode cL_law 1381 = .ok (.aload_n 3, 1) := by decide +kernel
theorem dL_law_1382 : decode cL_law 1382 = .ok (.iconst 0, 1) := by decide +kernel
theorem dL_law_1383 : decode cL_law 1383 = .ok (.laload, 1) := by decide +kernel
theorem dL_law_1384 : decode cL_law 1384 = .ok (.iload 6, 2) := by decide +kernel
theorem dL_law_1386 : decode cL_law 1386 = .ok (.i2l, 1) := by decide +kernel
theorem dL_law_1387 : decode cL_law 1387 = .ok (.lcmp, 1) := by decide +kernel
theorem dL_law_1388 : decode cL_law 1388 = .ok (.ifCond .eq 5, 3) := by decide +kernel
theorem dL_law_1391 : decode cL_law 1391 = .ok (.iconst 0, 1) := by decide +kernel
theorem dL_law_1392 : decode cL_law 1392 = .ok (.ireturn, 1) := by decide +kernel
theorem dL_law_1393 : decode cL_law 1393 = .ok (.goto 3, 3) := by decide +kernel
theorem dL_law_1396 : decode cL_law 1396 = .ok (.iinc 4 7, 3) := by decide +kernel
theorem dL_law_1399 : decode cL_law 1399 = .ok (.goto (-1376), 3) := by decide +kernel
theorem dL_law_1402 : decode cL_law 1402 = .ok (.iconst 1, 1) := by decide +kernel
theorem dL_law_1403 : decode cL_law 1403 = .ok (.ireturn, 1) := by decide +kernel
end
section
/-! whole numbers: an int is iv z, a long is jv z, z an Int -/
def iv (z : Int) : Int32 := Int32.ofInt z
def jv (z : Int) : Int64 := Int64.ofInt z
abbrev rg (z : Int) : Prop := -2147483648 ≤ z ∧ z < 2147483648
abbrev rgj (z : Int) : Prop := -9223372036854775808 ≤ z ∧ z < 9223372036854775808
theorem iv_toInt {z : Int} (h : rg z) : (iv z).toInt = z := by
  unfold iv
  rw [Int32.toInt_ofInt, show Int32.size = 4294967296 from rfl]
  obtain ⟨h1, h2⟩ := h
  rw [Int.bmod_eq_of_le (by omega) (by omega)]
theorem jv_toInt {z : Int} (h : rgj z) : (jv z).toInt = z := by
  unfold jv
  rw [Int64.toInt_ofInt, show Int64.size = 18446744073709551616 from rfl]
  obtain ⟨h1, h2⟩ := h
  rw [Int.bmod_eq_of_le (by omega) (by omega)]
theorem iv_of (x : Int32) : x = iv x.toInt := by
  unfold iv
  exact (Int32.ofInt_toInt x).symm
theorem iv_rg (x : Int32) : rg x.toInt := ⟨Int32.le_toInt x, Int32.toInt_lt x⟩
theorem iv_add (a b : Int) : iv a + iv b = iv (a + b) := by unfold iv; exact (Int32.ofInt_add a b).symm
theorem iv_sub (a b : Int) : iv a - iv b = iv (a - b) := by unfold iv; exact (Int32.ofInt_sub a b).symm
theorem iv_mul (a b : Int) : iv a * iv b = iv (a * b) := by unfold iv; exact (Int32.ofInt_mul a b).symm
theorem iv_neg (a : Int) : -iv a = iv (-a) := by unfold iv; exact (Int32.ofInt_neg a).symm
theorem iv_inj {a b : Int} (ha : rg a) (hb : rg b) (h : iv a = iv b) : a = b := by
  rw [← iv_toInt ha, ← iv_toInt hb, h]
theorem jv_inj {a b : Int} (ha : rgj a) (hb : rgj b) (h : jv a = jv b) : a = b := by
  rw [← jv_toInt ha, ← jv_toInt hb, h]
theorem iv_lt {a b : Int} (ha : rg a) (hb : rg b) : iv a < iv b ↔ a < b := by
  rw [Int32.lt_iff_toInt_lt, iv_toInt ha, iv_toInt hb]
theorem iv_le {a b : Int} (ha : rg a) (hb : rg b) : iv a ≤ iv b ↔ a ≤ b := by
  rw [Int32.le_iff_toInt_le, iv_toInt ha, iv_toInt hb]
theorem iv_eq {a b : Int} (ha : rg a) (hb : rg b) : iv a = iv b ↔ a = b := ⟨iv_inj ha hb, fun h => by rw [h]⟩
theorem iv_zero : iv 0 = 0 := by decide
theorem iv_nat (n : Nat) : iv (n : Int) = nI n := by unfold iv nI; exact Int32.ofInt_eq_ofNat
theorem jv_nat (n : Nat) : jv (n : Int) = lN n := by unfold jv lN; exact Int64.ofInt_eq_ofNat
theorem iv_clamp {z : Int} (h : rg z) : (iv z).toNatClampNeg = z.toNat := by
  show (iv z).toInt.toNat = z.toNat
  rw [iv_toInt h]
theorem iv_in {z : Int} {n : Nat} (h0 : 0 ≤ z) (h : z < n) (hn : n ≤ 2147483648) : vp_in (iv z) n := by
  rw [vp_in_iff, iv_toInt ⟨by omega, by omega⟩]
  exact ⟨h0, h⟩
theorem iv_long (z : Int) (h : rg z) : (iv z).toInt64 = jv z := by
  apply Int64.toInt_inj.mp
  rw [Int32.toInt_toInt64, iv_toInt h, jv_toInt ⟨by have := h.1; omega, by have := h.2; omega⟩]
def bz (b : Bool) : Int := if b then 1 else 0
theorem bz_t : bz true = 1 := rfl
theorem bz_f : bz false = 0 := rfl
theorem bz_rg (b : Bool) : rg (bz b) := by cases b <;> decide
theorem bz_1 {b : Bool} (h : b = true) : iv 1 = iv (bz b) := by rw [h]; rfl
theorem bz_0 {b : Bool} (h : b = false) : iv 0 = iv (bz b) := by rw [h]; rfl
theorem bz_01 (b : Bool) : bz b = 0 ∨ bz b = 1 := by cases b <;> simp [bz]
/-! the environment: n0 the heap's size at the start; D, the classes' places; the array classes; addresses that stay -/
abbrev EV : Type := Nat × va_G × (Nat → ClassId) × (Nat → Nat)
abbrev AA (ε : EV) : Nat → Prop := fun q => ε.1 ≤ q
abbrev tys (ε : EV) : List (ClassId × FieldType) := [(ε.2.2.1 0, .int), (ε.2.2.1 1, .boolean), (ε.2.2.1 2, .object "java/lang/Object"), (ε.2.2.1 3, .long)]
abbrev WP (ε : EV) (ws : va_W) (H : Heap) : Prop := va_P ε.2.1 vwCl ws H
abbrev WD (ε : EV) (ws : va_W) : Prop := va_D (AA ε) ws
abbrev WS (ε : EV) (H0 H : Heap) (locs : List Loc) : Prop := va_S (AA ε) H0 H locs
abbrev WK (ε : EV) (s : State) : Prop := va_K ε.2.1 vwCl (tys ε) s
def nObj : String := "java/lang/Object"
def castW : List Cond := [.castable RX0 nObj, .castable RX1 nObj, .castable RX2 nObj, .castable RX3 nObj, .castable "[I" "java/lang/Cloneable", .castable "java/lang/IndexOutOfBoundsException" "java/lang/IndexOutOfBoundsException", .castable "java/lang/IllegalArgumentException" "java/lang/IllegalArgumentException", .castable "java/lang/IllegalStateException" "java/lang/IllegalStateException"]
def nIAE : String := "java/lang/IllegalArgumentException"
def nISE : String := "java/lang/IllegalStateException"
def nIOE : String := "java/lang/IndexOutOfBoundsException"
/-- the written texts of the exceptions: pool index, text -/
def strT : List (Nat × String) := [(39, "the draft has all its phases"), (48, "the draft has not 2, 4 or 6 phases"), (50, "there are all the patterns that can be"), (89, "there are all the lamps that can be"), (113, "the lamp has failed already, or has not"), (147, "there are all the charts that can be"), (185, "a number is out of its range"), (190, "there is no such pattern"), (194, "there is no such lamp"), (195, "there is no such chart")]
def ENV (ε : EV) (U : State) (H : Heap) : Prop :=
  ε.1 ≤ H.size ∧ WK ε U ∧ (∀ w ∈ castW, ∃ C T, w = .castable C T ∧ va_Nw w U) ∧
  (∀ a ∈ [nIAE, nISE, nIOE], ∀ b ∈ [nIAE, nISE, nIOE], a ≠ b → va_Nc a b U) ∧
  va_Z "java/util/ArrayList" "DEFAULTCAPACITY_EMPTY_ELEMENTDATA" "[Ljava/lang/Object;" (.ref (ε.2.2.2 0)) (AA ε) U H ∧
  va_T (.object "java/lang/Object") (ε.2.2.2 0) 0 (fun _ => .null) (AA ε) U H ∧
  vx_Zq Bundle.tN "UNASSIGNED_STACK" Bundle.steD (AA ε) U H ∧ vx_Zq Bundle.tN "SUPPRESSED_SENTINEL" Bundle.listD (AA ε) U H ∧
  va_Mi "[Ljava/lang/Object;" (ε.2.2.2 1) U ∧ va_Dc U ∧ va_AO "java/lang/Object" U ∧
  (∀ q ∈ strT, ∃ a, vk_R RX4 q.1 q.2 a U)
theorem ENV.go {ε : EV} {s U : State} {H0 H : Heap} {locs : List Loc} (h : ENV ε s H0) (hS : WS ε H0 H locs) (hW : s.WarmedH U.vm) : ENV ε U H := by
  obtain ⟨h1, h2, h3, h4, h5, h6, h7, h8, h9, h10, h11, h12⟩ := h
  refine ⟨Nat.le_trans h1 hS.1, va_K.moved hW.alike h2, ?_, fun a ha b hb hn => (h4 a ha b hb hn).moved hW.alike, (h5.moved hW.alike).kept hS.2.1, (h6.moved hW.alike).kept hS.2.1, (h7.moved hW.alike).kept hS.2.1, (h8.moved hW.alike).kept hS.2.1, h9.moved hW.alike, h10.moved hW.alike, h11.moved hW.alike, fun q hq => ?_⟩
  · intro w hw
    obtain ⟨C, T, rfl, h⟩ := h3 w hw
    exact ⟨C, T, rfl, va_Nw.warmC hW h⟩
  · obtain ⟨a, ha⟩ := h12 q hq
    exact ⟨a, vk_R.warm hW ha⟩
theorem ENV.calling {ε : EV} {U : State} {H : Heap} {g : JFrame} {mk : MethodId} {a : Array Value} (h : ENV ε U H) : ENV ε (U.calling g mk a) H := by
  have hW : U.WarmedH (U.calling g mk a).vm := State.WarmedH.refl U
  exact h.go (locs := []) va_S.rf hW
theorem ENV.K {ε : EV} {U : State} {H : Heap} (h : ENV ε U H) : WK ε U := h.2.1
theorem ENV.A {ε : EV} {U : State} {H : Heap} (h : ENV ε U H) : ∀ q, H.size ≤ q → AA ε q := fun q hq => Nat.le_trans h.1 hq
/-! the cells -/
def In (ws : va_W) (a : Nat) (e : va_E) : Prop := ∃ k : Nat, ws[k]? = some (a, e)
abbrev eI (ε : EV) (n : Nat) (G : Nat → Int) : va_E := .inl (ε.2.2.1 0, n, .inl (fun j => iv (G j)))
abbrev eZ (ε : EV) (n : Nat) (G : Nat → Int) : va_E := .inl (ε.2.2.1 1, n, .inl (fun j => iv (G j)))
abbrev eO (ε : EV) (n : Nat) (g : Nat → Option Nat) : va_E := .inl (ε.2.2.1 2, n, .inr (.inr (.inr (.inr g))))
abbrev eJ (ε : EV) (n : Nat) (G : Nat → Int) : va_E := .inl (ε.2.2.1 3, n, .inr (.inl (fun j => jv (G j))))
abbrev oAL (md : Int) (ed : Nat) (n : Int) : va_E := .inr (0, [.int (iv md), .ref ed, .int (iv n)])
abbrev oCh (pa : Nat) (nt : Int) : va_E := .inr (1, [.ref pa, .int (iv nt)])
abbrev oLa (x y : Int) (si : Nat) (pt bg fl : Int) : va_E := .inr (2, [.int (iv x), .int (iv y), .ref si, .int (iv pt), .int (iv bg), .int (iv fl)])
abbrev oNo (la pt : Int) : va_E := .inr (3, [.int (iv la), .int (iv pt)])
abbrev oPa (ph : Nat) (pe lg cy : Int) : va_E := .inr (4, [.ref ph, .int (iv pe), .long (jv lg), .int (iv cy)])
abbrev oLR (dr : Nat) (dn : Int) (aP aL aT aC : Nat) : va_E := .inr (5, [.ref dr, .int (iv dn), .ref aP, .ref aL, .ref aT, .ref aC])
theorem in_pl {X : va_W} {L : List Nat} {f : Nat → va_E} {a : Nat} {e : va_E} (h : a ∈ L) (he : f a = e) : In (X ++ va_pl L f) a e := by
  obtain ⟨k, hk⟩ := va_pl_get (X := X) (f := f) h
  exact ⟨k, by rw [hk, he]⟩
theorem in_left {ws R : va_W} {a : Nat} {e : va_E} (h : In ws a e) : In (ws ++ R) a e := by
  obtain ⟨k, hk⟩ := h
  exact ⟨k, by rw [List.getElem?_append_left (List.getElem?_eq_some_iff.mp hk).1]; exact hk⟩
theorem in_right {ws R : va_W} {a : Nat} {e : va_E} (h : In R a e) : In (ws ++ R) a e := by
  obtain ⟨k, hk⟩ := h
  exact ⟨ws.length + k, by rw [List.getElem?_append_right (Nat.le_add_right _ _), Nat.add_sub_cancel_left]; exact hk⟩
theorem va_up_at {α : Type} (f : Nat → α) (k : Nat) (v : α) (j : Nat) : va_up f k v j = if j = k then v else f j := rfl
theorem upd_iv {G : Nat → Int} {z v : Int} (h : rg z) : upd (fun j => iv (G j)) (iv z).toNatClampNeg (iv v) = fun j => iv (va_up G z.toNat v j) := by
  funext j
  rw [iv_clamp h]
  unfold upd va_up
  by_cases hj : j = z.toNat <;> simp [hj]
theorem updL_jv {G : Nat → Int} {z v : Int} (h : rg z) : vp_updL (fun j => jv (G j)) (iv z).toNatClampNeg (jv v) = fun j => jv (va_up G z.toNat v j) := by
  funext j
  rw [iv_clamp h]
  unfold vp_updL va_up
  by_cases hj : j = z.toNat <;> simp [hj]
end
section
/-! rows over iv and jv -/
section RW1
variable {p : Program} {l : Launch} {e : Env} {R : Room} {s : State} {m : MethodId} {args : Array Value} {below : List Frame} {meth : Method} {c : Code} {H : Heap} {locs : List Loc} {cells slots : Nat} {Q : State → Prop}
variable {cc : ByteArray} {pc : Nat} {ls : Array Slot} {rest : List Value}
/-- what stands through a method's walk -/
def CTX (p : Program) (s : State) (m : MethodId) (args : Array Value) (meth : Method) (c : Code) (cc : ByteArray) (mL : Nat) (ret : Option FieldType) (own nm : String) (tb : List ExceptionTableEntry) : Prop :=
  p.tables.exec = Jvm.exec ∧ c.code = cc ∧ c.maxLocals = mL ∧ s.vm.findClass own = some m.cls ∧ (∀ w ∈ WALL, w.before args s = true) ∧ meth.sig.returnType = ret ∧ meth.locks = false ∧ c.exceptionTable.toList = tb ∧ meth.name = nm
theorem r_iadd (hx : p.tables.exec = Jvm.exec) (hb : c.code = cc) {a b : Int} (hd : decode cc pc = .ok (.iadd, 1)) (k : W p l e R s m args below meth c H locs cells slots Q (F0 m (pc + 1) ls (.int (iv (a + b)) :: rest))) : W p l e R s m args below meth c H locs cells slots Q (F0 m pc ls (.int (iv b) :: .int (iv a) :: rest)) :=
  lv_iadd hx hb hd (by rw [iv_add]; exact k)
theorem r_isub (hx : p.tables.exec = Jvm.exec) (hb : c.code = cc) {a b : Int} (hd : decode cc pc = .ok (.isub, 1)) (k : W p l e R s m args below meth c H locs cells slots Q (F0 m (pc + 1) ls (.int (iv (a - b)) :: rest))) : W p l e R s m args below meth c H locs cells slots Q (F0 m pc ls (.int (iv b) :: .int (iv a) :: rest)) :=
  lv_isub hx hb hd (by rw [iv_sub]; exact k)
theorem r_imul (hx : p.tables.exec = Jvm.exec) (hb : c.code = cc) {a b : Int} (hd : decode cc pc = .ok (.imul, 1)) (k : W p l e R s m args below meth c H locs cells slots Q (F0 m (pc + 1) ls (.int (iv (a * b)) :: rest))) : W p l e R s m args below meth c H locs cells slots Q (F0 m pc ls (.int (iv b) :: .int (iv a) :: rest)) :=
  lv_imul hx hb hd (by rw [iv_mul]; exact k)
theorem r_ineg (hx : p.tables.exec = Jvm.exec) (hb : c.code = cc) {a : Int} (hd : decode cc pc = .ok (.ineg, 1)) (k : W p l e R s m args below meth c H locs cells slots Q (F0 m (pc + 1) ls (.int (iv (-a)) :: rest))) : W p l e R s m args below meth c H locs cells slots Q (F0 m pc ls (.int (iv a) :: rest)) :=
  lv_ineg hx hb hd (by rw [iv_neg]; exact k)
theorem iv_div {a b : Int} (ha : 0 ≤ a) (ha2 : a < 2147483648) (hb : 0 < b) (hb2 : b < 2147483648) : iv a / iv b = iv (a / b) := by
  have h1 : a = ((a.toNat : Nat) : Int) := by omega
  have h2 : b = ((b.toNat : Nat) : Int) := by omega
  rw [h1, h2, iv_nat, iv_nat, pk_div (by omega) (by omega) (by omega), ← iv_nat, Int.natCast_ediv]
theorem iv_rem {a b : Int} (ha : 0 ≤ a) (ha2 : a < 2147483648) (hb : 0 < b) (hb2 : b < 2147483648) : iv a - iv a / iv b * iv b = iv (a % b) := by
  have h1 : a = ((a.toNat : Nat) : Int) := by omega
  have h2 : b = ((b.toNat : Nat) : Int) := by omega
  rw [h1, h2, iv_nat, iv_nat, pk_rem (by omega) (by omega) (by omega), ← iv_nat, Int.natCast_emod]
theorem iv_ne0 {b : Int} (hb : rg b) (h : b ≠ 0) : ¬ iv b = 0 := fun q => h (iv_inj hb (by decide) (q.trans iv_zero.symm))
theorem r_idiv (hx : p.tables.exec = Jvm.exec) (hb : c.code = cc) {a b : Int} (hd : decode cc pc = .ok (.idiv, 1)) (h : (0 ≤ a ∧ a < 2147483648) ∧ 0 < b ∧ b < 2147483648) (k : W p l e R s m args below meth c H locs cells slots Q (F0 m (pc + 1) ls (.int (iv (a / b)) :: rest))) : W p l e R s m args below meth c H locs cells slots Q (F0 m pc ls (.int (iv b) :: .int (iv a) :: rest)) :=
  lv_idiv hx hb hd (iv_ne0 ⟨by omega, by omega⟩ (by omega)) (by rw [iv_div h.1.1 h.1.2 h.2.1 h.2.2]; exact k)
theorem r_irem (hx : p.tables.exec = Jvm.exec) (hb : c.code = cc) {a b : Int} (hd : decode cc pc = .ok (.irem, 1)) (h : (0 ≤ a ∧ a < 2147483648) ∧ 0 < b ∧ b < 2147483648) (k : W p l e R s m args below meth c H locs cells slots Q (F0 m (pc + 1) ls (.int (iv (a % b)) :: rest))) : W p l e R s m args below meth c H locs cells slots Q (F0 m pc ls (.int (iv b) :: .int (iv a) :: rest)) :=
  lv_irem hx hb hd (iv_ne0 ⟨by omega, by omega⟩ (by omega)) (by rw [iv_rem h.1.1 h.1.2 h.2.1 h.2.2]; exact k)
theorem r_icmp_lt (hx : p.tables.exec = Jvm.exec) (hb : c.code = cc) {a b : Int} {off : Int} {tgt : Nat} (hd : decode cc pc = .ok (.if_icmp .lt off, 3)) (ht : (pc : Int) + off = (tgt : Int)) (ha : rg a) (hb9 : rg b) (kt : a < b → W p l e R s m args below meth c H locs cells slots Q (F0 m tgt ls rest)) (kf : b ≤ a → W p l e R s m args below meth c H locs cells slots Q (F0 m (pc + 3) ls rest)) : W p l e R s m args below meth c H locs cells slots Q (F0 m pc ls (.int (iv b) :: .int (iv a) :: rest)) := by
  refine lv_icmp_lt hx hb hd ht (fun q => kt ?_) (fun q => kf ?_)
  · exact (iv_lt ha hb9).mp q
  · exact (by have h9 : ¬ a < b := fun z => q ((iv_lt ha hb9).mpr z); omega)
theorem r_if_lt (hx : p.tables.exec = Jvm.exec) (hb : c.code = cc) {a : Int} {off : Int} {tgt : Nat} (hd : decode cc pc = .ok (.ifCond .lt off, 3)) (ht : (pc : Int) + off = (tgt : Int)) (ha : rg a) (kt : a < 0 → W p l e R s m args below meth c H locs cells slots Q (F0 m tgt ls rest)) (kf : 0 ≤ a → W p l e R s m args below meth c H locs cells slots Q (F0 m (pc + 3) ls rest)) : W p l e R s m args below meth c H locs cells slots Q (F0 m pc ls (.int (iv a) :: rest)) := by
  have e0 : (0 : Int32) = iv 0 := iv_zero.symm
  refine lv_if_lt hx hb hd ht (fun q => kt ?_) (fun q => kf ?_)
  · rw [e0] at q; exact (iv_lt ha (show rg 0 by decide)).mp q
  · rw [e0] at q; exact (by have h9 : ¬ a < 0 := fun z => q ((iv_lt ha (show rg 0 by decide)).mpr z); omega)
theorem r_icmp_ge (hx : p.tables.exec = Jvm.exec) (hb : c.code = cc) {a b : Int} {off : Int} {tgt : Nat} (hd : decode cc pc = .ok (.if_icmp .ge off, 3)) (ht : (pc : Int) + off = (tgt : Int)) (ha : rg a) (hb9 : rg b) (kt : b ≤ a → W p l e R s m args below meth c H locs cells slots Q (F0 m tgt ls rest)) (kf : a < b → W p l e R s m args below meth c H locs cells slots Q (F0 m (pc + 3) ls rest)) : W p l e R s m args below meth c H locs cells slots Q (F0 m pc ls (.int (iv b) :: .int (iv a) :: rest)) := by
  refine lv_icmp_ge hx hb hd ht (fun q => kt ?_) (fun q => kf ?_)
  · exact (iv_le hb9 ha).mp q
  · exact (by have h9 : ¬ b ≤ a := fun z => q ((iv_le hb9 ha).mpr z); omega)
theorem r_if_ge (hx : p.tables.exec = Jvm.exec) (hb : c.code = cc) {a : Int} {off : Int} {tgt : Nat} (hd : decode cc pc = .ok (.ifCond .ge off, 3)) (ht : (pc : Int) + off = (tgt : Int)) (ha : rg a) (kt : 0 ≤ a → W p l e R s m args below meth c H locs cells slots Q (F0 m tgt ls rest)) (kf : a < 0 → W p l e R s m args below meth c H locs cells slots Q (F0 m (pc + 3) ls rest)) : W p l e R s m args below meth c H locs cells slots Q (F0 m pc ls (.int (iv a) :: rest)) := by
  have e0 : (0 : Int32) = iv 0 := iv_zero.symm
  refine lv_if_ge hx hb hd ht (fun q => kt ?_) (fun q => kf ?_)
  · rw [e0] at q; exact (iv_le (show rg 0 by decide) ha).mp q
  · rw [e0] at q; exact (by have h9 : ¬ 0 ≤ a := fun z => q ((iv_le (show rg 0 by decide) ha).mpr z); omega)
theorem r_icmp_gt (hx : p.tables.exec = Jvm.exec) (hb : c.code = cc) {a b : Int} {off : Int} {tgt : Nat} (hd : decode cc pc = .ok (.if_icmp .gt off, 3)) (ht : (pc : Int) + off = (tgt : Int)) (ha : rg a) (hb9 : rg b) (kt : b < a → W p l e R s m args below meth c H locs cells slots Q (F0 m tgt ls rest)) (kf : a ≤ b → W p l e R s m args below meth c H locs cells slots Q (F0 m (pc + 3) ls rest)) : W p l e R s m args below meth c H locs cells slots Q (F0 m pc ls (.int (iv b) :: .int (iv a) :: rest)) := by
  refine lv_icmp_gt hx hb hd ht (fun q => kt ?_) (fun q => kf ?_)
  · exact (iv_lt hb9 ha).mp q
  · exact (by have h9 : ¬ b < a := fun z => q ((iv_lt hb9 ha).mpr z); omega)
theorem r_if_gt (hx : p.tables.exec = Jvm.exec) (hb : c.code = cc) {a : Int} {off : Int} {tgt : Nat} (hd : decode cc pc = .ok (.ifCond .gt off, 3)) (ht : (pc : Int) + off = (tgt : Int)) (ha : rg a) (kt : 0 < a → W p l e R s m args below meth c H locs cells slots Q (F0 m tgt ls rest)) (kf : a ≤ 0 → W p l e R s m args below meth c H locs cells slots Q (F0 m (pc + 3) ls rest)) : W p l e R s m args below meth c H locs cells slots Q (F0 m pc ls (.int (iv a) :: rest)) := by
  have e0 : (0 : Int32) = iv 0 := iv_zero.symm
  refine lv_if_gt hx hb hd ht (fun q => kt ?_) (fun q => kf ?_)
  · rw [e0] at q; exact (iv_lt (show rg 0 by decide) ha).mp q
  · rw [e0] at q; exact (by have h9 : ¬ 0 < a := fun z => q ((iv_lt (show rg 0 by decide) ha).mpr z); omega)
theorem r_icmp_le (hx : p.tables.exec = Jvm.exec) (hb : c.code = cc) {a b : Int} {off : Int} {tgt : Nat} (hd : decode cc pc = .ok (.if_icmp .le off, 3)) (ht : (pc : Int) + off = (tgt : Int)) (ha : rg a) (hb9 : rg b) (kt : a ≤ b → W p l e R s m args below meth c H locs cells slots Q (F0 m tgt ls rest)) (kf : b < a → W p l e R s m args below meth c H locs cells slots Q (F0 m (pc + 3) ls rest)) : W p l e R s m args below meth c H locs cells slots Q (F0 m pc ls (.int (iv b) :: .int (iv a) :: rest)) := by
  refine lv_icmp_le hx hb hd ht (fun q => kt ?_) (fun q => kf ?_)
  · exact (iv_le ha hb9).mp q
  · exact (by have h9 : ¬ a ≤ b := fun z => q ((iv_le ha hb9).mpr z); omega)
theorem r_if_le (hx : p.tables.exec = Jvm.exec) (hb : c.code = cc) {a : Int} {off : Int} {tgt : Nat} (hd : decode cc pc = .ok (.ifCond .le off, 3)) (ht : (pc : Int) + off = (tgt : Int)) (ha : rg a) (kt : a ≤ 0 → W p l e R s m args below meth c H locs cells slots Q (F0 m tgt ls rest)) (kf : 0 < a → W p l e R s m args below meth c H locs cells slots Q (F0 m (pc + 3) ls rest)) : W p l e R s m args below meth c H locs cells slots Q (F0 m pc ls (.int (iv a) :: rest)) := by
  have e0 : (0 : Int32) = iv 0 := iv_zero.symm
  refine lv_if_le hx hb hd ht (fun q => kt ?_) (fun q => kf ?_)
  · rw [e0] at q; exact (iv_le ha (show rg 0 by decide)).mp q
  · rw [e0] at q; exact (by have h9 : ¬ a ≤ 0 := fun z => q ((iv_le ha (show rg 0 by decide)).mpr z); omega)
theorem r_icmp_eq (hx : p.tables.exec = Jvm.exec) (hb : c.code = cc) {a b : Int} {off : Int} {tgt : Nat} (hd : decode cc pc = .ok (.if_icmp .eq off, 3)) (ht : (pc : Int) + off = (tgt : Int)) (ha : rg a) (hb9 : rg b) (kt : a = b → W p l e R s m args below meth c H locs cells slots Q (F0 m tgt ls rest)) (kf : a ≠ b → W p l e R s m args below meth c H locs cells slots Q (F0 m (pc + 3) ls rest)) : W p l e R s m args below meth c H locs cells slots Q (F0 m pc ls (.int (iv b) :: .int (iv a) :: rest)) := by
  refine lv_icmp_eq hx hb hd ht (fun q => kt ?_) (fun q => kf ?_)
  · exact (iv_eq ha hb9).mp q
  · exact fun z => q ((iv_eq ha hb9).mpr z)
theorem r_if_eq (hx : p.tables.exec = Jvm.exec) (hb : c.code = cc) {a : Int} {off : Int} {tgt : Nat} (hd : decode cc pc = .ok (.ifCond .eq off, 3)) (ht : (pc : Int) + off = (tgt : Int)) (ha : rg a) (kt : a = 0 → W p l e R s m args below meth c H locs cells slots Q (F0 m tgt ls rest)) (kf : a ≠ 0 → W p l e R s m args below meth c H locs cells slots Q (F0 m (pc + 3) ls rest)) : W p l e R s m args below meth c H locs cells slots Q (F0 m pc ls (.int (iv a) :: rest)) := by
  have e0 : (0 : Int32) = iv 0 := iv_zero.symm
  refine lv_if_eq hx hb hd ht (fun q => kt ?_) (fun q => kf ?_)
  · rw [e0] at q; exact (iv_eq ha (show rg 0 by decide)).mp q
  · rw [e0] at q; exact fun z => q ((iv_eq ha (show rg 0 by decide)).mpr z)
theorem r_icmp_ne (hx : p.tables.exec = Jvm.exec) (hb : c.code = cc) {a b : Int} {off : Int} {tgt : Nat} (hd : decode cc pc = .ok (.if_icmp .ne off, 3)) (ht : (pc : Int) + off = (tgt : Int)) (ha : rg a) (hb9 : rg b) (kt : a ≠ b → W p l e R s m args below meth c H locs cells slots Q (F0 m tgt ls rest)) (kf : a = b → W p l e R s m args below meth c H locs cells slots Q (F0 m (pc + 3) ls rest)) : W p l e R s m args below meth c H locs cells slots Q (F0 m pc ls (.int (iv b) :: .int (iv a) :: rest)) := by
  refine lv_icmp_ne hx hb hd ht (fun q => kt ?_) (fun q => kf ?_)
  · exact fun z => q ((iv_eq ha hb9).mpr z)
  · exact (iv_eq ha hb9).mp q
theorem r_if_ne (hx : p.tables.exec = Jvm.exec) (hb : c.code = cc) {a : Int} {off : Int} {tgt : Nat} (hd : decode cc pc = .ok (.ifCond .ne off, 3)) (ht : (pc : Int) + off = (tgt : Int)) (ha : rg a) (kt : a ≠ 0 → W p l e R s m args below meth c H locs cells slots Q (F0 m tgt ls rest)) (kf : a = 0 → W p l e R s m args below meth c H locs cells slots Q (F0 m (pc + 3) ls rest)) : W p l e R s m args below meth c H locs cells slots Q (F0 m pc ls (.int (iv a) :: rest)) := by
  have e0 : (0 : Int32) = iv 0 := iv_zero.symm
  refine lv_if_ne hx hb hd ht (fun q => kt ?_) (fun q => kf ?_)
  · rw [e0] at q; exact fun z => q ((iv_eq ha (show rg 0 by decide)).mpr z)
  · rw [e0] at q; exact (iv_eq ha (show rg 0 by decide)).mp q
theorem r_if_b0 (hx : p.tables.exec = Jvm.exec) (hb : c.code = cc) {b : Bool} {off : Int} {tgt : Nat} (hd : decode cc pc = .ok (.ifCond .eq off, 3)) (ht : (pc : Int) + off = (tgt : Int)) (kt : b = false → W p l e R s m args below meth c H locs cells slots Q (F0 m tgt ls rest)) (kf : b = true → W p l e R s m args below meth c H locs cells slots Q (F0 m (pc + 3) ls rest)) : W p l e R s m args below meth c H locs cells slots Q (F0 m pc ls (.int (iv (bz b)) :: rest)) :=
  r_if_eq hx hb hd ht (bz_rg b) (fun q => kt (by cases b <;> simp_all [bz])) (fun q => kf (by cases b <;> simp_all [bz]))
theorem r_if_b1 (hx : p.tables.exec = Jvm.exec) (hb : c.code = cc) {b : Bool} {off : Int} {tgt : Nat} (hd : decode cc pc = .ok (.ifCond .ne off, 3)) (ht : (pc : Int) + off = (tgt : Int)) (kt : b = true → W p l e R s m args below meth c H locs cells slots Q (F0 m tgt ls rest)) (kf : b = false → W p l e R s m args below meth c H locs cells slots Q (F0 m (pc + 3) ls rest)) : W p l e R s m args below meth c H locs cells slots Q (F0 m pc ls (.int (iv (bz b)) :: rest)) :=
  r_if_ne hx hb hd ht (bz_rg b) (fun q => kt (by cases b <;> simp_all [bz])) (fun q => kf (by cases b <;> simp_all [bz]))
end RW1
end
section
/-! rows over the heap: any world's cell is read by In; a pool X ++ va_pl L f is written by va_up -/
section RW2
variable {p : Program} {l : Launch} {e : Env} {R : Room} {s : State} {m : MethodId} {args : Array Value} {below : List Frame} {meth : Method} {c : Code} {H H0 : Heap} {locs : List Loc} {cells slots : Nat} {Q : State → Prop}
variable {cc : ByteArray} {pc : Nat} {ls : Array Slot} {rest : List Value} {ε : EV} {ws X : va_W} {L : List Nat} {f : Nat → va_E} {a : Nat} {mL : Nat} {ret : Option FieldType} {own nm : String} {tb : List ExceptionTableEntry}
theorem r_get (hC : CTX p s m args meth c cc mL ret own nm tb) (hK : WK ε s) (hP : WP ε ws H) {ci : Nat} {fs : List Value} {C ref : String} {T : u_T} {N index : Nat} (hi : In ws a (.inr (ci, fs))) (hc : vwCl[ci]? = some (C, T, N)) (hin : ∀ w ∈ u_ws C T N, w ∈ WALL) (k : Nat) (hk : k < N) (hlink : Cond.fieldLink own index ref (T k).2.1 (T k).2.2.1 ∈ WALL) (hsame : ∀ x, s.fieldFound? (T k).1 (T k).2.1 (T k).2.2.1 = some x → s.fieldFound? ref (T k).2.1 (T k).2.2.1 = some x) {v : Value} (hv : fs[k]? = some v) (hdg : decode cc pc = .ok (.getfield index, 3))
    (kk : W p l e R s m args below meth c H locs cells slots Q (F0 m (pc + 3) ls (v :: rest))) : W p l e R s m args below meth c H locs cells slots Q (F0 m pc ls (.ref a :: rest)) := by
  obtain ⟨hx, hb, -, ho, hts, -⟩ := hC
  obtain ⟨q, hq⟩ := hi
  exact va_get (own := own) (ref := ref) (C := C) (T := T) (N := N) (ci := ci) hx hb hts hin ho hK hP q hq hc k hk (hts _ hlink) hsame hv hdg kk
theorem r_iald (hC : CTX p s m args meth c cc mL ret own nm tb) (hK : WK ε s) (hP : WP ε ws H) {n : Nat} {G : Nat → Int} (hi : In ws a (eI ε n G)) {z : Int} (hz : 0 ≤ z ∧ z < n ∧ n ≤ 2147483648) (hdg : decode cc pc = .ok (.iaload, 1))
    (kk : W p l e R s m args below meth c H locs cells slots Q (F0 m (pc + 1) ls (.int (iv (G z.toNat)) :: rest))) : W p l e R s m args below meth c H locs cells slots Q (F0 m pc ls (.int (iv z) :: .ref a :: rest)) := by
  obtain ⟨q, hq⟩ := hi
  refine va_iald hC.1 hC.2.1 hK hP q 0 hq rfl (iv_in hz.1 hz.2.1 hz.2.2) hdg ?_
  rw [iv_clamp ⟨by omega, by omega⟩]
  exact kk
theorem r_zald (hC : CTX p s m args meth c cc mL ret own nm tb) (hK : WK ε s) (hP : WP ε ws H) {n : Nat} {G : Nat → Int} (hi : In ws a (eZ ε n G)) {z : Int} (hz : 0 ≤ z ∧ z < n ∧ n ≤ 2147483648) (hdg : decode cc pc = .ok (.baload, 1))
    (kk : W p l e R s m args below meth c H locs cells slots Q (F0 m (pc + 1) ls (.int (iv (G z.toNat)) :: rest))) : W p l e R s m args below meth c H locs cells slots Q (F0 m pc ls (.int (iv z) :: .ref a :: rest)) := by
  obtain ⟨q, hq⟩ := hi
  refine va_zald hC.1 hC.2.1 hK hP q 1 hq rfl (iv_in hz.1 hz.2.1 hz.2.2) hdg ?_
  rw [iv_clamp ⟨by omega, by omega⟩]
  exact kk
theorem r_jald (hC : CTX p s m args meth c cc mL ret own nm tb) (hK : WK ε s) (hP : WP ε ws H) {n : Nat} {G : Nat → Int} (hi : In ws a (eJ ε n G)) {z : Int} (hz : 0 ≤ z ∧ z < n ∧ n ≤ 2147483648) (hdg : decode cc pc = .ok (.laload, 1))
    (kk : W p l e R s m args below meth c H locs cells slots Q (F0 m (pc + 1) ls (.long (jv (G z.toNat)) :: rest))) : W p l e R s m args below meth c H locs cells slots Q (F0 m pc ls (.int (iv z) :: .ref a :: rest)) := by
  obtain ⟨q, hq⟩ := hi
  refine va_lald hC.1 hC.2.1 hK hP q 3 hq rfl (iv_in hz.1 hz.2.1 hz.2.2) hdg ?_
  rw [iv_clamp ⟨by omega, by omega⟩]
  exact kk
theorem r_aald (hC : CTX p s m args meth c cc mL ret own nm tb) (hK : WK ε s) (hP : WP ε ws H) {n : Nat} {g : Nat → Option Nat} (hi : In ws a (eO ε n g)) {z : Int} (hz : 0 ≤ z ∧ z < n ∧ n ≤ 2147483648) (hdg : decode cc pc = .ok (.aaload, 1))
    (kk : W p l e R s m args below meth c H locs cells slots Q (F0 m (pc + 1) ls (va_rf (g z.toNat) :: rest))) : W p l e R s m args below meth c H locs cells slots Q (F0 m pc ls (.int (iv z) :: .ref a :: rest)) := by
  obtain ⟨q, hq⟩ := hi
  refine va_aldq hC.1 hC.2.1 hK hP q 2 hq rfl (iv_in hz.1 hz.2.1 hz.2.2) hdg ?_
  rw [iv_clamp ⟨by omega, by omega⟩]
  exact kk
theorem r_alenI (hC : CTX p s m args meth c cc mL ret own nm tb) (hK : WK ε s) (hP : WP ε ws H) {n : Nat} {G : Nat → Int} (hi : In ws a (eI ε n G)) (hdg : decode cc pc = .ok (.arraylength, 1))
    (kk : W p l e R s m args below meth c H locs cells slots Q (F0 m (pc + 1) ls (.int (iv n) :: rest))) : W p l e R s m args below meth c H locs cells slots Q (F0 m pc ls (.ref a :: rest)) := by
  obtain ⟨q, hq⟩ := hi
  exact va_alen hC.1 hC.2.1 hK hP q 0 hq rfl (iv_nat n).symm hdg kk
theorem r_alenO (hC : CTX p s m args meth c cc mL ret own nm tb) (hK : WK ε s) (hP : WP ε ws H) {n : Nat} {g : Nat → Option Nat} (hi : In ws a (eO ε n g)) (hdg : decode cc pc = .ok (.arraylength, 1))
    (kk : W p l e R s m args below meth c H locs cells slots Q (F0 m (pc + 1) ls (.int (iv n) :: rest))) : W p l e R s m args below meth c H locs cells slots Q (F0 m pc ls (.ref a :: rest)) := by
  obtain ⟨q, hq⟩ := hi
  exact va_alen hC.1 hC.2.1 hK hP q 2 hq rfl (iv_nat n).symm hdg kk
/-! writes into the pool -/
theorem p_put (hC : CTX p s m args meth c cc mL ret own nm tb) (hK : WK ε s) (hP : WP ε (X ++ va_pl L f) H) (hD : WD ε (X ++ va_pl L f)) (hS : WS ε H0 H locs) (ha : a ∈ L) {ci : Nat} {fs : List Value} {C ref : String} {T : u_T} {N index : Nat} (hf : f a = .inr (ci, fs)) (hc : vwCl[ci]? = some (C, T, N)) (hin : ∀ w ∈ u_ws C T N, w ∈ WALL) (ty0 : Nat → FieldType) (hty : ∀ k, k < N → parseFieldDescriptor (T k).2.2.1 = some (ty0 k)) (hnm : ∀ a, a < N → ∀ b, b < N → a ≠ b → (T a).2.1 ≠ (T b).2.1) (k : Nat) (hk : k < N) (hlink : Cond.fieldLink own index ref (T k).2.1 (T k).2.2.1 ∈ WALL) (hsame : ∀ x, s.fieldFound? (T k).1 (T k).2.1 (T k).2.2.1 = some x → s.fieldFound? ref (T k).2.1 (T k).2.2.1 = some x) (hfin : (T k).2.2.2 = false) {v : Value} (hn : narrow (ty0 k) v = v) (hfit : fits (ty0 k) v = true) (hl : k < fs.length)
    (hdg : decode cc pc = .ok (.putfield index, 3)) (kk : ∀ (H1 : Heap) (locs1 : List Loc), WP ε (X ++ va_pl L (va_up f a (.inr (ci, fs.set k v)))) H1 → WD ε (X ++ va_pl L (va_up f a (.inr (ci, fs.set k v)))) → WS ε H0 H1 locs1 → W p l e R s m args below meth c H1 locs1 cells slots Q (F0 m (pc + 3) ls rest)) : W p l e R s m args below meth c H locs cells slots Q (F0 m pc ls (v :: .ref a :: rest)) := by
  obtain ⟨hx, hb, -, ho, hts, -⟩ := hC
  obtain ⟨q, hq⟩ := va_pl_get (X := X) (f := f) ha
  refine va_put (own := own) (ref := ref) (C := C) (T := T) (N := N) (ci := ci) hx hb hts hin ty0 hty hnm ho hK hP hD hS q (by rw [hq, hf]) hc k hk (hts _ hlink) hsame hfin (hty k hk) hn hfit hl hdg (fun H1 locs1 h1 h2 h3 => ?_)
  rw [va_pl_set hD ha hq] at h1 h2
  exact kk H1 locs1 h1 h2 h3
theorem p_putF (hC : CTX p s m args meth c cc mL ret own nm tb) (hK : WK ε s) (hP : WP ε (X ++ va_pl L f) H) (hD : WD ε (X ++ va_pl L f)) (hS : WS ε H0 H locs) (ha : a ∈ L) {ci : Nat} {fs : List Value} {C ref : String} {T : u_T} {N index : Nat} (hf : f a = .inr (ci, fs)) (hc : vwCl[ci]? = some (C, T, N)) (hin : ∀ w ∈ u_ws C T N, w ∈ WALL) (ty0 : Nat → FieldType) (hty : ∀ k, k < N → parseFieldDescriptor (T k).2.2.1 = some (ty0 k)) (hnm : ∀ a, a < N → ∀ b, b < N → a ≠ b → (T a).2.1 ≠ (T b).2.1) (k : Nat) (hk : k < N) (hlink : Cond.fieldLink own index ref (T k).2.1 (T k).2.2.1 ∈ WALL) (hsame : ∀ x, s.fieldFound? (T k).1 (T k).2.1 (T k).2.2.1 = some x → s.fieldFound? ref (T k).2.1 (T k).2.2.1 = some x) (hfin : (T k).2.2.2 = true) (hin2 : nm = "<init>") (hdecl : (T k).1 = own) {v : Value} (hn : narrow (ty0 k) v = v) (hfit : fits (ty0 k) v = true) (hl : k < fs.length)
    (hdg : decode cc pc = .ok (.putfield index, 3)) (kk : ∀ (H1 : Heap) (locs1 : List Loc), WP ε (X ++ va_pl L (va_up f a (.inr (ci, fs.set k v)))) H1 → WD ε (X ++ va_pl L (va_up f a (.inr (ci, fs.set k v)))) → WS ε H0 H1 locs1 → W p l e R s m args below meth c H1 locs1 cells slots Q (F0 m (pc + 3) ls rest)) : W p l e R s m args below meth c H locs cells slots Q (F0 m pc ls (v :: .ref a :: rest)) := by
  obtain ⟨hx, hb, -, ho, hts, -, -, -, hnam⟩ := hC
  obtain ⟨q, hq⟩ := va_pl_get (X := X) (f := f) ha
  refine va_putF (own := own) (ref := ref) (C := C) (T := T) (N := N) (ci := ci) hx hb hts hin ty0 hty hnm ho hK hP hD hS q (by rw [hq, hf]) hc k hk (hts _ hlink) hsame hfin (hnam.trans hin2) hdecl (hty k hk) hn hfit hl hdg (fun H1 locs1 h1 h2 h3 => ?_)
  rw [va_pl_set hD ha hq] at h1 h2
  exact kk H1 locs1 h1 h2 h3
theorem p_iast (hC : CTX p s m args meth c cc mL ret own nm tb) (hK : WK ε s) (hP : WP ε (X ++ va_pl L f) H) (hD : WD ε (X ++ va_pl L f)) (hS : WS ε H0 H locs) (ha : a ∈ L) {n : Nat} {G : Nat → Int} (hf : f a = eI ε n G) {z v : Int} (hz : 0 ≤ z ∧ z < n ∧ n ≤ 2147483648) (hdg : decode cc pc = .ok (.iastore, 1))
    (kk : ∀ (H1 : Heap) (locs1 : List Loc), WP ε (X ++ va_pl L (va_up f a (eI ε n (va_up G z.toNat v)))) H1 → WD ε (X ++ va_pl L (va_up f a (eI ε n (va_up G z.toNat v)))) → WS ε H0 H1 locs1 → W p l e R s m args below meth c H1 locs1 cells slots Q (F0 m (pc + 1) ls rest)) : W p l e R s m args below meth c H locs cells slots Q (F0 m pc ls (.int (iv v) :: .int (iv z) :: .ref a :: rest)) := by
  obtain ⟨q, hq⟩ := va_pl_get (X := X) (f := f) ha
  refine va_iast hC.1 hC.2.1 hK hP hD hS q 0 (by rw [hq, hf]) rfl (iv_in hz.1 hz.2.1 hz.2.2) hdg (fun H1 locs1 h1 h2 h3 => ?_)
  rw [upd_iv ⟨by omega, by omega⟩, va_pl_set hD ha hq] at h1 h2
  exact kk H1 locs1 h1 h2 h3
theorem p_jast (hC : CTX p s m args meth c cc mL ret own nm tb) (hK : WK ε s) (hP : WP ε (X ++ va_pl L f) H) (hD : WD ε (X ++ va_pl L f)) (hS : WS ε H0 H locs) (ha : a ∈ L) {n : Nat} {G : Nat → Int} (hf : f a = eJ ε n G) {z v : Int} (hz : 0 ≤ z ∧ z < n ∧ n ≤ 2147483648) (hdg : decode cc pc = .ok (.lastore, 1))
    (kk : ∀ (H1 : Heap) (locs1 : List Loc), WP ε (X ++ va_pl L (va_up f a (eJ ε n (va_up G z.toNat v)))) H1 → WD ε (X ++ va_pl L (va_up f a (eJ ε n (va_up G z.toNat v)))) → WS ε H0 H1 locs1 → W p l e R s m args below meth c H1 locs1 cells slots Q (F0 m (pc + 1) ls rest)) : W p l e R s m args below meth c H locs cells slots Q (F0 m pc ls (.long (jv v) :: .int (iv z) :: .ref a :: rest)) := by
  obtain ⟨q, hq⟩ := va_pl_get (X := X) (f := f) ha
  refine va_last hC.1 hC.2.1 hK hP hD hS q 3 (by rw [hq, hf]) rfl (iv_in hz.1 hz.2.1 hz.2.2) hdg (fun H1 locs1 h1 h2 h3 => ?_)
  rw [updL_jv ⟨by omega, by omega⟩, va_pl_set hD ha hq] at h1 h2
  exact kk H1 locs1 h1 h2 h3
theorem p_aast (hC : CTX p s m args meth c cc mL ret own nm tb) (hE : ENV ε s H0) (hP : WP ε (X ++ va_pl L f) H) (hD : WD ε (X ++ va_pl L f)) (hS : WS ε H0 H locs) (ha : a ∈ L) {n : Nat} {g : Nat → Option Nat} (hf : f a = eO ε n g) {v ci : Nat} {fs : List Value} {r : vw_C} (hv : In (X ++ va_pl L f) v (.inr (ci, fs))) (hc : vwCl[ci]? = some r) (hcast : Cond.castable r.1 nObj ∈ castW) {z : Int} (hz : 0 ≤ z ∧ z < n ∧ n ≤ 2147483648) (hdg : decode cc pc = .ok (.aastore, 1))
    (kk : ∀ (H1 : Heap) (locs1 : List Loc), WP ε (X ++ va_pl L (va_up f a (eO ε n (va_up g z.toNat (some v))))) H1 → WD ε (X ++ va_pl L (va_up f a (eO ε n (va_up g z.toNat (some v))))) → WS ε H0 H1 locs1 → W p l e R s m args below meth c H1 locs1 cells slots Q (F0 m (pc + 1) ls rest)) : W p l e R s m args below meth c H locs cells slots Q (F0 m pc ls (.ref v :: .int (iv z) :: .ref a :: rest)) := by
  obtain ⟨q, hq⟩ := va_pl_get (X := X) (f := f) ha
  obtain ⟨kv, hkv⟩ := hv
  have hca : va_Nw (.castable r.1 "java/lang/Object") s := by
    obtain ⟨C9, T9, h9, h8⟩ := hE.2.2.1 _ hcast
    exact h8
  refine va_astqO hC.1 hC.2.1 hE.K hP hD hS q 2 kv ci (by rw [hq, hf]) rfl hca hkv hc (iv_in hz.1 hz.2.1 hz.2.2) hdg (fun H1 locs1 h1 h2 h3 => ?_)
  rw [iv_clamp ⟨by omega, by omega⟩, va_pl_set hD ha hq] at h1 h2
  exact kk H1 locs1 h1 h2 h3
theorem p_push {q : Nat} {e0 : va_E} (hD : WD ε ((X ++ va_pl L f) ++ [(q, e0)])) : q ∉ L ∧ (X ++ va_pl L f) ++ [(q, e0)] = X ++ va_pl (L ++ [q]) (va_up f q e0) := by
  have h := va_pl_fresh2 hD
  exact ⟨h, by rw [List.append_assoc, va_pl_push h]⟩
theorem p_new (hC : CTX p s m args meth c cc mL ret own nm tb) (hE : ENV ε s H0) (hP : WP ε (X ++ va_pl L f) H) (hD : WD ε (X ++ va_pl L f)) (hS : WS ε H0 H locs) {ci : Nat} {fs : List Value} {C : String} {T : u_T} {N index : Nat} (hc : vwCl[ci]? = some (C, T, N)) (hin : ∀ w ∈ u_ws C T N, w ∈ WALL) (ty : Nat → FieldType) (hty : ∀ k, k < N → parseFieldDescriptor (T k).2.2.1 = some (ty k)) (hcl : Cond.classLink own index C ∈ WALL) (hinst : Cond.instantiable C N ∈ WALL) (hini : Cond.initialized C ∈ WALL) (hfs : ∀ j, j < N → defaultValue (ty j) = vp_V fs j) (hcells : cells + 1 ≤ R.cells) (hslots : slots + N ≤ R.slots) (hdg : decode cc pc = .ok (.new index, 3))
    (kk : ∀ (q : Nat) (H1 : Heap), q ∉ L → WP ε (X ++ va_pl (L ++ [q]) (va_up f q (.inr (ci, fs)))) H1 → WD ε (X ++ va_pl (L ++ [q]) (va_up f q (.inr (ci, fs)))) → WS ε H0 H1 locs → W p l e R s m args below meth c H1 locs (cells + 1) (slots + N) Q (F0 m (pc + 3) ls (.ref q :: rest))) : W p l e R s m args below meth c H locs cells slots Q (F0 m pc ls rest) := by
  obtain ⟨hx, hb, -, ho, hts, -⟩ := hC
  refine va_new (own := own) (C := C) (T := T) (N := N) (ci := ci) hx hb hts hin ty hty ho (hts _ hcl) (hts _ hinst) (hts _ hini) hE.K hP hD hS hE.A hc hfs hcells hslots hdg (fun q H1 h1 h2 h3 => ?_)
  obtain ⟨h4, h5⟩ := p_push h2
  rw [h5] at h1 h2
  exact kk q H1 h4 h1 h2 h3
theorem va_RA_fn {U : State} {c1 c2 : ClassId} {ty : FieldType} (h1 : va_RA U c1 ty) (h2 : va_RA U c2 ty) : c1 = c2 := by
  unfold va_RA at h1 h2
  cases ty with
  | object C =>
    obtain ⟨-, -, -, -, -, a⟩ := h1
    obtain ⟨-, -, -, -, -, b⟩ := h2
    exact Option.some.inj (a.symm.trans b)
  | _ => exact Option.some.inj (h1.symm.trans h2)
theorem tys_new {c1 : ClassId} {ty : FieldType} {t0 : Nat} {c0 : ClassId} (h : va_K ε.2.1 vwCl (tys ε ++ [(c1, ty)]) s) (h0 : (tys ε)[t0]? = some (c0, ty)) : c1 = c0 :=
  va_RA_fn (h.2 4 (c1, ty) rfl).2 (h.2 t0 (c0, ty) (by rw [List.getElem?_append_left (List.getElem?_eq_some_iff.mp h0).1]; exact h0)).2
theorem p_newI (hC : CTX p s m args meth c cc mL ret own nm tb) (hE : ENV ε s H0) (hP : WP ε (X ++ va_pl L f) H) (hD : WD ε (X ++ va_pl L f)) (hS : WS ε H0 H locs) {z : Int} {N : Nat} (hN : z = (N : Int)) (hN2 : N < 100000) (hcells : cells + 1 ≤ R.cells) (hslots : slots + N ≤ R.slots) (hw : Cond.arrayClass .int ∈ WALL) (hdg : decode cc pc = .ok (.newarray .int, 2))
    (kk : ∀ (q : Nat) (H1 : Heap), q ∉ L → WP ε (X ++ va_pl (L ++ [q]) (va_up f q (eI ε N (fun _ => 0)))) H1 → WD ε (X ++ va_pl (L ++ [q]) (va_up f q (eI ε N (fun _ => 0)))) → WS ε H0 H1 locs → W p l e R s m args below meth c H1 locs (cells + 1) (slots + N) Q (F0 m (pc + 2) ls (.ref q :: rest))) : W p l e R s m args below meth c H locs cells slots Q (F0 m pc ls (.int (iv z) :: rest)) := by
  subst hN
  have hr : rg (N : Int) := ⟨by omega, by omega⟩
  refine va_newa (atype := .int) (ty := .int) (a0 := (N, .inl (fun _ => iv 0))) (N' := N) hC.1 hC.2.1 (hC.2.2.2.2.1 _ hw) rfl hE.K hP hD hS hE.A (fun cA => rfl) (fun q => by rw [← iv_zero, iv_lt hr (by decide)] at q; omega) (by rw [iv_clamp hr]; rfl) (by show N * 4 ≤ _; omega) hcells hslots hdg (fun q cA H1 h0 h1 h2 h3 => ?_)
  have ec := tys_new (t0 := 0) h0 rfl
  subst ec
  obtain ⟨h4, h5⟩ := p_push h2
  rw [h5] at h1 h2
  exact kk q H1 h4 h1 h2 h3
theorem p_newZ (hC : CTX p s m args meth c cc mL ret own nm tb) (hE : ENV ε s H0) (hP : WP ε (X ++ va_pl L f) H) (hD : WD ε (X ++ va_pl L f)) (hS : WS ε H0 H locs) {z : Int} {N : Nat} (hN : z = (N : Int)) (hN2 : N < 100000) (hcells : cells + 1 ≤ R.cells) (hslots : slots + N ≤ R.slots) (hw : Cond.arrayClass .boolean ∈ WALL) (hdg : decode cc pc = .ok (.newarray .boolean, 2))
    (kk : ∀ (q : Nat) (H1 : Heap), q ∉ L → WP ε (X ++ va_pl (L ++ [q]) (va_up f q (eZ ε N (fun _ => 0)))) H1 → WD ε (X ++ va_pl (L ++ [q]) (va_up f q (eZ ε N (fun _ => 0)))) → WS ε H0 H1 locs → W p l e R s m args below meth c H1 locs (cells + 1) (slots + N) Q (F0 m (pc + 2) ls (.ref q :: rest))) : W p l e R s m args below meth c H locs cells slots Q (F0 m pc ls (.int (iv z) :: rest)) := by
  subst hN
  have hr : rg (N : Int) := ⟨by omega, by omega⟩
  refine va_newa (atype := .boolean) (ty := .boolean) (a0 := (N, .inl (fun _ => iv 0))) (N' := N) hC.1 hC.2.1 (hC.2.2.2.2.1 _ hw) rfl hE.K hP hD hS hE.A (fun cA => rfl) (fun q => by rw [← iv_zero, iv_lt hr (by decide)] at q; omega) (by rw [iv_clamp hr]; rfl) (by show N * 1 ≤ _; omega) hcells hslots hdg (fun q cA H1 h0 h1 h2 h3 => ?_)
  have ec := tys_new (t0 := 1) h0 rfl
  subst ec
  obtain ⟨h4, h5⟩ := p_push h2
  rw [h5] at h1 h2
  exact kk q H1 h4 h1 h2 h3
theorem p_newJ (hC : CTX p s m args meth c cc mL ret own nm tb) (hE : ENV ε s H0) (hP : WP ε (X ++ va_pl L f) H) (hD : WD ε (X ++ va_pl L f)) (hS : WS ε H0 H locs) {z : Int} {N : Nat} (hN : z = (N : Int)) (hN2 : N < 100000) (hcells : cells + 1 ≤ R.cells) (hslots : slots + N ≤ R.slots) (hw : Cond.arrayClass .long ∈ WALL) (hdg : decode cc pc = .ok (.newarray .long, 2))
    (kk : ∀ (q : Nat) (H1 : Heap), q ∉ L → WP ε (X ++ va_pl (L ++ [q]) (va_up f q (eJ ε N (fun _ => 0)))) H1 → WD ε (X ++ va_pl (L ++ [q]) (va_up f q (eJ ε N (fun _ => 0)))) → WS ε H0 H1 locs → W p l e R s m args below meth c H1 locs (cells + 1) (slots + N) Q (F0 m (pc + 2) ls (.ref q :: rest))) : W p l e R s m args below meth c H locs cells slots Q (F0 m pc ls (.int (iv z) :: rest)) := by
  subst hN
  have hr : rg (N : Int) := ⟨by omega, by omega⟩
  refine va_newa (atype := .long) (ty := .long) (a0 := (N, .inr (.inl (fun _ => jv 0)))) (N' := N) hC.1 hC.2.1 (hC.2.2.2.2.1 _ hw) rfl hE.K hP hD hS hE.A (fun cA => rfl) (fun q => by rw [← iv_zero, iv_lt hr (by decide)] at q; omega) (by rw [iv_clamp hr]; rfl) (by show N * 8 ≤ _; omega) hcells hslots hdg (fun q cA H1 h0 h1 h2 h3 => ?_)
  have ec := tys_new (t0 := 3) h0 rfl
  subst ec
  obtain ⟨h4, h5⟩ := p_push h2
  rw [h5] at h1 h2
  exact kk q H1 h4 h1 h2 h3
theorem p_newO (hC : CTX p s m args meth c cc mL ret own nm tb) (hE : ENV ε s H0) (hP : WP ε (X ++ va_pl L f) H) (hD : WD ε (X ++ va_pl L f)) (hS : WS ε H0 H locs) {z : Int} {N index : Nat} (hN : z = (N : Int)) (hN2 : N < 100000) (hcells : cells + 1 ≤ R.cells) (hslots : slots + N ≤ R.slots) (hcl : Cond.classLink own index "java/lang/Object" ∈ WALL) (hdg : decode cc pc = .ok (.anewarray index, 3))
    (kk : ∀ (q : Nat) (H1 : Heap), q ∉ L → WP ε (X ++ va_pl (L ++ [q]) (va_up f q (eO ε N (fun _ => none)))) H1 → WD ε (X ++ va_pl (L ++ [q]) (va_up f q (eO ε N (fun _ => none)))) → WS ε H0 H1 locs → W p l e R s m args below meth c H1 locs (cells + 1) (slots + N) Q (F0 m (pc + 3) ls (.ref q :: rest))) : W p l e R s m args below meth c H locs cells slots Q (F0 m pc ls (.int (iv z) :: rest)) := by
  subst hN
  have hr : rg (N : Int) := ⟨by omega, by omega⟩
  refine va_newq (C := "java/lang/Object") (N' := N) hC.1 hC.2.1 hC.2.2.2.1 (hC.2.2.2.2.1 _ hcl) hE.2.2.2.2.2.2.2.2.2.2.1 hE.K hP hD hS hE.A (fun q => by rw [← iv_zero, iv_lt hr (by decide)] at q; omega) (by rw [iv_clamp hr]; rfl) (by omega) hcells hslots hdg (fun q cA H1 h0 h1 h2 h3 => ?_)
  have ec := tys_new (t0 := 2) h0 rfl
  subst ec
  obtain ⟨h4, h5⟩ := p_push h2
  rw [h5] at h1 h2
  exact kk q H1 h4 h1 h2 h3
end RW2
end
section
/-! one kind of contract: from a world ws the method returns with 'post answer world', or throws E with 'px E world' -/
def QR (ε : EV) (post : Option Value → va_W → Prop) : Array Value → State → Outcome → State → Prop := fun _ st o t => ∃ (v : Option Value) (ws : va_W), o = .returned v ∧ post v ws ∧ WP ε ws t.heap ∧ WD ε ws ∧ va_F (AA ε) st t
def XR (ε : EV) (px : String → va_W → Prop) : String → State → State → Prop := fun E st t => ∃ ws : va_W, px E ws ∧ WP ε ws t.heap ∧ WD ε ws ∧ va_F (AA ε) st t
def PR (ε : EV) (as : List Value) (ws : va_W) : Array Value → State → Prop := va_Pc as (fun U => ENV ε U U.heap ∧ WP ε ws U.heap ∧ WD ε ws)
def CT (l : Launch) (y : MethodName) (cc : ByteArray) (mL : Nat) (ret : Option FieldType) (rm : Room) (ε : EV) (as : List Value) (ws : va_W) (post : Option Value → va_W → Prop) (px : String → va_W → Prop) : Prop :=
  vx_Met l y (Cond.code y cc mL ret :: WALL) rm (PR ε as ws) (QR ε post) (XR ε px) rm.cells rm.slots (AA ε)
def CTW (l : Launch) (y : MethodName) (cc : ByteArray) (mL : Nat) (ret : Option FieldType) (hh : List (Nat × Nat × Nat × Nat)) (rm : Room) (ε : EV) (as : List Value) (ws : va_W) (post : Option Value → va_W → Prop) (px : String → va_W → Prop) : Prop :=
  vx_Met l y (Cond.codeWith y cc mL ret hh :: WALL) rm (PR ε as ws) (QR ε post) (XR ε px) rm.cells rm.slots (AA ε)
def NX : String → va_W → Prop := fun _ _ => False
theorem PR.blind {ε : EV} {as : List Value} {ws : va_W} : FrameBlind (PR ε as ws) := fun _ _ _ _ q => ⟨q.1, ENV.calling q.2.1, q.2.2⟩
theorem CT.intro {l : Launch} {y : MethodName} {cc : ByteArray} {mL : Nat} {ret : Option FieldType} {rm : Room} {ε : EV} {as : List Value} {ws : va_W} {post : Option Value → va_W → Prop} {px : String → va_W → Prop} (hpl : plainName y.cls = true) (hlen : (lg_sl as).length ≤ mL)
    (body : ∀ (p : Program) (e : Env) (s : State) (m : MethodId) (args : Array Value) (below : List Frame) (meth : Method) (c : Code) (ls : Array Slot) (Q : State → Prop), CTX p s m args meth c cc mL ret y.cls y.name [] → ENV ε s s.heap → WP ε ws s.heap → WD ε ws → lv_has ls mL (lv_args 0 as) →
      Q = vx_MQ below (QR ε post) (XR ε px) args s rm.cells rm.slots (AA ε) → W p l e rm s m args below meth c s.heap [] 0 0 Q (F0 m 0 ls [])) : CT l y cc mL ret rm ε as ws post px := by
  refine vx_ofW hpl rfl ?_
  intro p e s m args below meth c s₁ B hml htb hv
  obtain ⟨rfl, hE, hP, hD⟩ := hv
  have hts := atoms_spec (ws := Cond.code y cc mL ret :: WALL) B.pre
  rw [lg_entry_eq]
  refine body p e s m as.toArray below meth c _ _ ⟨B.exec, B.bytes, hml, findClass_of_methodNamed B.named, fun w hw => hts w (List.mem_cons_of_mem _ hw), B.returns, B.notSynchronized, List.eq_nil_iff_forall_not_mem.mpr (fun x hx => htb x hx), (name_of_methodNamed B.named B.method).1⟩ hE hP hD (lv_entry as hlen) rfl
theorem CTW.intro {l : Launch} {y : MethodName} {cc : ByteArray} {mL : Nat} {ret : Option FieldType} {hh : List (Nat × Nat × Nat × Nat)} {rm : Room} {ε : EV} {as : List Value} {ws : va_W} {post : Option Value → va_W → Prop} {px : String → va_W → Prop} (hpl : plainName y.cls = true) (hlen : (lg_sl as).length ≤ mL)
    (body : ∀ (p : Program) (e : Env) (s : State) (m : MethodId) (args : Array Value) (below : List Frame) (meth : Method) (c : Code) (ls : Array Slot) (Q : State → Prop), CTX p s m args meth c cc mL ret y.cls y.name (tableOf hh) → ENV ε s s.heap → WP ε ws s.heap → WD ε ws → lv_has ls mL (lv_args 0 as) →
      Q = vx_MQ below (QR ε post) (XR ε px) args s rm.cells rm.slots (AA ε) → W p l e rm s m args below meth c s.heap [] 0 0 Q (F0 m 0 ls [])) : CTW l y cc mL ret hh rm ε as ws post px := by
  refine vx_ofWH (hh := hh) hpl rfl ?_
  intro p e s m args below meth c s₁ B hml hv
  obtain ⟨rfl, hE, hP, hD⟩ := hv
  have hts := atoms_spec (ws := Cond.codeWith y cc mL ret hh :: WALL) B.pre
  rw [lg_entry_eq]
  refine body p e s m as.toArray below meth c _ _ ⟨B.exec, B.bytes, hml, findClass_of_methodNamed B.named, fun w hw => hts w (List.mem_cons_of_mem _ hw), B.returns, B.notSynchronized, vx_table (x := y) B (hts _ List.mem_cons_self), (name_of_methodNamed B.named B.method).1⟩ hE hP hD (lv_entry as hlen) rfl
theorem CT.met {l : Launch} {y : MethodName} {cc : ByteArray} {mL : Nat} {ret : Option FieldType} {rm : Room} {ε : EV} {as : List Value} {ws : va_W} {post : Option Value → va_W → Prop} (h : CT l y cc mL ret rm ε as ws post NX) : Met l y (Cond.code y cc mL ret :: WALL) rm (PR ε as ws) (QR ε post) rm.cells rm.slots (AA ε) := by
  intro p e a1 a2 a3 s m args below a4 a5 a6 a7
  obtain ⟨k, o, h1, h2, h3, h4⟩ := h p e a1 a2 a3 s m args below a4 a5 a6 a7
  refine ⟨k, o, h1, h2, h3, ?_⟩
  rcases h4 with h4 | ⟨q, -, E, ce, L, ⟨ws', hf, -⟩, -⟩
  · exact h4
  · exact hf.elim
section CR
variable {p : Program} {l : Launch} {e : Env} {R : Room} {s : State} {m : MethodId} {args : Array Value} {below : List Frame} {meth : Method} {c : Code} {H : Heap} {locs : List Loc} {cells slots : Nat} {Q : State → Prop}
variable {cc : ByteArray} {pc : Nat} {ls : Array Slot} {rest st0 : List Value} {ε : EV} {ws : va_W} {mL : Nat} {ret : Option FieldType} {own nm : String} {tb : List ExceptionTableEntry} {post : Option Value → va_W → Prop} {px : String → va_W → Prop}
/-! ends -/
theorem c_iret {mc ms : Nat} {v : Int32} (hC : CTX p s m args meth c cc mL (some .int) own nm tb) (hQ : Q = vx_MQ below (QR ε post) (XR ε px) args s mc ms (AA ε)) (hP : WP ε ws H) (hD : WD ε ws) (hS : WS ε s.heap H locs) (hc : cells ≤ mc) (hs : slots ≤ ms) (hdg : decode cc pc = .ok (.ireturn, 1)) (hq : post (some (.int v)) ws) : W p l e R s m args below meth c H locs cells slots Q (F0 m pc ls [.int v]) := by
  subst hQ
  obtain ⟨hx, hb, -, -, -, hr, hlk, -⟩ := hC
  refine vx_ret (W.widen hc hs (W.iret hx hb hr (fun t ht _ => ⟨_, ws, rfl, hq, by rw [ht]; exact hP, hD, va_S.F hS ht⟩) hS.2.2 hdg hlk))
theorem c_zret {mc ms : Nat} {v : Int32} (hC : CTX p s m args meth c cc mL (some .boolean) own nm tb) (hQ : Q = vx_MQ below (QR ε post) (XR ε px) args s mc ms (AA ε)) (hP : WP ε ws H) (hD : WD ε ws) (hS : WS ε s.heap H locs) (hc : cells ≤ mc) (hs : slots ≤ ms) (hdg : decode cc pc = .ok (.ireturn, 1)) (hn : narrow .boolean (.int v) = .int v) (hq : post (some (.int v)) ws) : W p l e R s m args below meth c H locs cells slots Q (F0 m pc ls [.int v]) := by
  subst hQ
  obtain ⟨hx, hb, -, -, -, hr, hlk, -⟩ := hC
  refine vx_ret (W.widen hc hs (W.zret hx hb hr hn (fun t ht _ => ⟨_, ws, rfl, hq, by rw [ht]; exact hP, hD, va_S.F hS ht⟩) hS.2.2 hdg hlk))
theorem c_vret {mc ms : Nat} (hC : CTX p s m args meth c cc mL none own nm tb) (hQ : Q = vx_MQ below (QR ε post) (XR ε px) args s mc ms (AA ε)) (hP : WP ε ws H) (hD : WD ε ws) (hS : WS ε s.heap H locs) (hc : cells ≤ mc) (hs : slots ≤ ms) (hdg : decode cc pc = .ok (.return_, 1)) (hq : post none ws) : W p l e R s m args below meth c H locs cells slots Q (F0 m pc ls []) := by
  subst hQ
  obtain ⟨hx, hb, -, -, -, hr, hlk, -⟩ := hC
  refine vx_ret (W.widen hc hs (W.vret hx hb hr (fun t ht _ => ⟨_, ws, rfl, hq, by rw [ht]; exact hP, hD, va_S.F hS ht⟩) hS.2.2 hdg hlk))
theorem c_lret {mc ms : Nat} {v : Int64} (hC : CTX p s m args meth c cc mL (some .long) own nm tb) (hQ : Q = vx_MQ below (QR ε post) (XR ε px) args s mc ms (AA ε)) (hP : WP ε ws H) (hD : WD ε ws) (hS : WS ε s.heap H locs) (hc : cells ≤ mc) (hs : slots ≤ ms) (hdg : decode cc pc = .ok (.lreturn, 1)) (hq : post (some (.long v)) ws) : W p l e R s m args below meth c H locs cells slots Q (F0 m pc ls [.long v]) := by
  subst hQ
  obtain ⟨hx, hb, -, -, -, hr, hlk, -⟩ := hC
  refine vx_ret (W.widen hc hs (W.lret hx hb hr (fun t ht _ => ⟨_, ws, rfl, hq, by rw [ht]; exact hP, hD, va_S.F hS ht⟩) hS.2.2 hdg hlk))
theorem c_aret {mc ms : Nat} {rt : FieldType} {v : Value} (hC : CTX p s m args meth c cc mL (some rt) own nm tb) (hrt : (∃ n, rt = .object n) ∨ ∃ t, rt = .array t) (hv : v = .null ∨ ∃ a, v = .ref a) (hQ : Q = vx_MQ below (QR ε post) (XR ε px) args s mc ms (AA ε)) (hP : WP ε ws H) (hD : WD ε ws) (hS : WS ε s.heap H locs) (hc : cells ≤ mc) (hs : slots ≤ ms) (hdg : decode cc pc = .ok (.areturn, 1)) (hq : post (some v) ws) : W p l e R s m args below meth c H locs cells slots Q (F0 m pc ls [v]) := by
  subst hQ
  obtain ⟨hx, hb, -, -, -, hr, hlk, -⟩ := hC
  refine vx_ret (W.widen hc hs (W.aret hx hb hr hrt hv (fun t ht _ => ⟨_, ws, rfl, hq, by rw [ht]; exact hP, hD, va_S.F hS ht⟩) hS.2.2 hdg hlk))
theorem nz_0 : narrow .boolean (.int (iv 0)) = .int (iv 0) := rfl
theorem nz_1 : narrow .boolean (.int (iv 1)) = .int (iv 1) := rfl
theorem nz_b (b : Bool) : narrow .boolean (.int (iv (bz b))) = .int (iv (bz b)) := by cases b <;> rfl
/-! calls -/
theorem c_run {mc ms : Nat} {a : Array Value} (hr : vx_Run p l e R s m args below meth c H locs cells slots mc ms (F0 m pc ls st0) rest (QR ε post a) (XR ε px) (AA ε)) (hS : WS ε s.heap H locs)
    (kx : ∀ (E : String) (ce : Cell) (q9 : Addr) (ws1 : va_W) (H1 : Heap) (locs1 : List Loc), px E ws1 → WP ε ws1 H1 → WD ε ws1 → WS ε s.heap H1 locs1 → H1[q9]? = some ce → ce.vm = .none → s.vm.findClass E = some ce.cls → vx_W p l e R s m args below meth c H1 locs1 (cells + mc) (slots + ms) Q (F0 m pc ls rest) q9)
    (kk : ∀ (v : Option Value) (ws1 : va_W) (H1 : Heap) (locs1 : List Loc), post v ws1 → WP ε ws1 H1 → WD ε ws1 → WS ε s.heap H1 locs1 → W p l e R s m args below meth c H1 locs1 (cells + mc) (slots + ms) Q (F0 m (pc + 3) ls (v.toList ++ rest))) : W p l e R s m args below meth c H locs cells slots Q (F0 m pc ls st0) := by
  intro T hT X
  rcases hr T hT X with ⟨v, st₀, t, T', L, h0, X', hL, e1, e2, ⟨v', ws', hv, hp, hP', hD', hF⟩, st⟩ | ⟨q, st₀, t, T', L, E, ce, h0, X', hL, e1, e2, ⟨ws', hp, hP', hD', hF⟩, hce, hcv, hcl, st⟩
  · cases hv
    obtain ⟨k1, k2, k3⟩ := vx_keep h0 e1 hS (fun _ _ h => h) (fun _ h => h) hL hF
    obtain ⟨t2, a1, b1⟩ := kk v ws' T'.heap (locs ++ L) hp (by rw [e1]; exact hP') hD' k3 T' rfl X'
    exact ⟨t2, st t2 a1, b1⟩
  · obtain ⟨k1, k2, k3⟩ := vx_keep h0 e1 hS (fun _ _ h => h) (fun _ h => h) hL hF
    obtain ⟨t2, a1, b1⟩ := kx E ce q ws' T'.heap (locs ++ L) hp (by rw [e1]; exact hP') hD' k3 (by rw [e1]; exact hce) hcv hcl T' rfl X'
    exact ⟨t2, st.trans a1, b1⟩
theorem c_runN {mc ms : Nat} {a : Array Value} (hr : va_Run p l e R s m args below meth c H locs cells slots mc ms (F0 m pc ls st0) rest (QR ε post a) (AA ε)) (hS : WS ε s.heap H locs)
    (kk : ∀ (v : Option Value) (ws1 : va_W) (H1 : Heap) (locs1 : List Loc), post v ws1 → WP ε ws1 H1 → WD ε ws1 → WS ε s.heap H1 locs1 → W p l e R s m args below meth c H1 locs1 (cells + mc) (slots + ms) Q (F0 m (pc + 3) ls (v.toList ++ rest))) : W p l e R s m args below meth c H locs cells slots Q (F0 m pc ls st0) := by
  intro T hT X
  obtain ⟨v, st₀, t, T', L, h0, X', hL, e1, e2, ⟨v', ws', hv, hp, hP', hD', hF⟩, st⟩ := hr T hT X
  cases hv
  obtain ⟨k1, k2, k3⟩ := vx_keep h0 e1 hS (fun _ _ h => h) (fun _ h => h) hL hF
  obtain ⟨t2, a1, b1⟩ := kk v ws' T'.heap (locs ++ L) hp (by rw [e1]; exact hP') hD' k3 T' rfl X'
  exact ⟨t2, st t2 a1, b1⟩
theorem c_pay {args : Array Value} {s : State} (hts : ∀ w ∈ WALL, w.before args s = true) {w0 : Cond} (h0 : w0 ∈ WALL) : ∀ w ∈ w0 :: WALL, ∀ (a' : Array Value) (U : State), s.WarmedH U.vm → w.before a' U = true := fun w hw a' U hW => by
  have hw' : w ∈ WALL := (List.mem_cons.mp hw).elim (fun z => by rw [z]; exact h0) id
  exact word_at hW (good_of_word (WALL_good w hw')) (hts w hw')
theorem c_len {y : MethodName} {n : Nat} (h : (parseMethodDescriptor y.desc).map (fun d => d.parameters.length) = some n) : ∀ sig, parseMethodDescriptor y.desc = some sig → n = sig.parameters.length := fun sig hs => by
  rw [hs] at h
  exact (Option.some.inj h).symm
theorem c_callV {y : MethodName} {cc' : ByteArray} {mL' n index b ci N : Nat} {ret' : Option FieldType} {rm' : Room} {As : List Value} {fs : List Value} {T : u_T}
    (hC : CTX p s m args meth c cc mL ret own nm tb) (hE : ENV ε s s.heap) (hP : WP ε ws H) (hD : WD ε ws) (hS : WS ε s.heap H locs) (hsz : ls.size = mL)
    (hM : CT l y cc' mL' ret' rm' ε (.ref b :: As) ws post px) (w1 : Cond.methodLink own index y ∈ WALL) (w2 : Cond.instanceMethod y ∈ WALL) (w3 : Cond.selects y.cls y y ∈ WALL) (w4 : Cond.initialized y.cls ∈ WALL) (w5 : Cond.code y cc' mL' ret' ∈ WALL)
    (hrv : In ws b (.inr (ci, fs))) (hcl : vwCl[ci]? = some (y.cls, T, N)) (hd : (y.cls ≠ "java/lang/invoke/MethodHandle" ∧ y.cls ≠ "java/lang/invoke/VarHandle") ∧ (parseMethodDescriptor y.desc).map (fun d => d.parameters.length) = some n) (hn : As.length = n)
    (hR : (rm'.frames + 1 ≤ R.frames ∧ 8 + (mL' + 11) + rm'.locals ≤ R.locals) ∧ (cells + rm'.cells ≤ R.cells ∧ slots + rm'.slots ≤ R.slots)) (hW : (rest.map fun v => v.category).sum ≤ 8) (hst : st0 = As.reverse ++ .ref b :: rest) (hdg : decode cc pc = .ok (.invokevirtual index, 3))
    (kx : ∀ (E : String) (ce : Cell) (q9 : Addr) (ws1 : va_W) (H1 : Heap) (locs1 : List Loc), px E ws1 → WP ε ws1 H1 → WD ε ws1 → WS ε s.heap H1 locs1 → H1[q9]? = some ce → ce.vm = .none → s.vm.findClass E = some ce.cls → vx_W p l e R s m args below meth c H1 locs1 (cells + rm'.cells) (slots + rm'.slots) Q (F0 m pc ls rest) q9)
    (kk : ∀ (v : Option Value) (ws1 : va_W) (H1 : Heap) (locs1 : List Loc), post v ws1 → WP ε ws1 H1 → WD ε ws1 → WS ε s.heap H1 locs1 → W p l e R s m args below meth c H1 locs1 (cells + rm'.cells) (slots + rm'.slots) Q (F0 m (pc + 3) ls (v.toList ++ rest))) : W p l e R s m args below meth c H locs cells slots Q (F0 m pc ls st0) := by
  obtain ⟨hx, hb, hml, ho, hts, -⟩ := hC
  obtain ⟨kq, hkq⟩ := hrv
  exact c_run (vx_runV (C := y.cls) (Ts := WALL) ⟨hx, hb, hml, ho, hts⟩ hM
    ⟨⟨rfl, rfl, hR.1.1, hR.1.2, c_pay hts w5, List.mem_cons_self, hts _ w5, hts _ w4, hd.1, c_len hd.2, hts _ w1⟩, hts _ w2, hts _ w3⟩
    ⟨PR.blind, va_recv hE.K hP hcl hkq, fun U hU hWU => ⟨rfl, by rw [hU]; exact hE.go hS hWU, by rw [hU]; exact hP, hD⟩⟩ rfl hn hsz hst (lv_room hW) hdg hR.2) hS kx kk
theorem c_callS {y : MethodName} {cc' : ByteArray} {mL' n index : Nat} {ret' : Option FieldType} {rm' : Room} {As : List Value}
    (hC : CTX p s m args meth c cc mL ret own nm tb) (hE : ENV ε s s.heap) (hP : WP ε ws H) (hD : WD ε ws) (hS : WS ε s.heap H locs) (hsz : ls.size = mL)
    (hM : CT l y cc' mL' ret' rm' ε As ws post px) (w1 : Cond.methodLink own index y ∈ WALL) (w2 : Cond.static y ∈ WALL) (w4 : Cond.initialized y.cls ∈ WALL) (w5 : Cond.code y cc' mL' ret' ∈ WALL)
    (hd : (y.cls ≠ "java/lang/invoke/MethodHandle" ∧ y.cls ≠ "java/lang/invoke/VarHandle") ∧ (parseMethodDescriptor y.desc).map (fun d => d.parameters.length) = some n) (hn : As.length = n)
    (hR : (rm'.frames + 1 ≤ R.frames ∧ 8 + (mL' + 11) + rm'.locals ≤ R.locals) ∧ (cells + rm'.cells ≤ R.cells ∧ slots + rm'.slots ≤ R.slots)) (hW : (rest.map fun v => v.category).sum ≤ 8) (hst : st0 = As.reverse ++ rest) (hdg : decode cc pc = .ok (.invokestatic index, 3))
    (kx : ∀ (E : String) (ce : Cell) (q9 : Addr) (ws1 : va_W) (H1 : Heap) (locs1 : List Loc), px E ws1 → WP ε ws1 H1 → WD ε ws1 → WS ε s.heap H1 locs1 → H1[q9]? = some ce → ce.vm = .none → s.vm.findClass E = some ce.cls → vx_W p l e R s m args below meth c H1 locs1 (cells + rm'.cells) (slots + rm'.slots) Q (F0 m pc ls rest) q9)
    (kk : ∀ (v : Option Value) (ws1 : va_W) (H1 : Heap) (locs1 : List Loc), post v ws1 → WP ε ws1 H1 → WD ε ws1 → WS ε s.heap H1 locs1 → W p l e R s m args below meth c H1 locs1 (cells + rm'.cells) (slots + rm'.slots) Q (F0 m (pc + 3) ls (v.toList ++ rest))) : W p l e R s m args below meth c H locs cells slots Q (F0 m pc ls st0) := by
  obtain ⟨hx, hb, hml, ho, hts, -⟩ := hC
  exact c_run (vx_runS (Ts := WALL) ⟨hx, hb, hml, ho, hts⟩ hM
    ⟨⟨rfl, rfl, hR.1.1, hR.1.2, c_pay hts w5, List.mem_cons_self, hts _ w5, hts _ w4, hd.1, c_len hd.2, hts _ w1⟩, hts _ w2⟩
    ⟨PR.blind, fun U hU hWU => ⟨rfl, by rw [hU]; exact hE.go hS hWU, by rw [hU]; exact hP, hD⟩⟩ rfl hn hsz hst (lv_room hW) hdg hR.2) hS kx kk
theorem c_callSW {y : MethodName} {cc' : ByteArray} {mL' n index : Nat} {ret' : Option FieldType} {hh : List (Nat × Nat × Nat × Nat)} {rm' : Room} {As : List Value}
    (hC : CTX p s m args meth c cc mL ret own nm tb) (hE : ENV ε s s.heap) (hP : WP ε ws H) (hD : WD ε ws) (hS : WS ε s.heap H locs) (hsz : ls.size = mL)
    (hM : CTW l y cc' mL' ret' hh rm' ε As ws post px) (w1 : Cond.methodLink own index y ∈ WALL) (w2 : Cond.static y ∈ WALL) (w4 : Cond.initialized y.cls ∈ WALL) (w5 : Cond.codeWith y cc' mL' ret' hh ∈ WALL)
    (hd : (y.cls ≠ "java/lang/invoke/MethodHandle" ∧ y.cls ≠ "java/lang/invoke/VarHandle") ∧ (parseMethodDescriptor y.desc).map (fun d => d.parameters.length) = some n) (hn : As.length = n)
    (hR : (rm'.frames + 1 ≤ R.frames ∧ 8 + (mL' + 11) + rm'.locals ≤ R.locals) ∧ (cells + rm'.cells ≤ R.cells ∧ slots + rm'.slots ≤ R.slots)) (hW : (rest.map fun v => v.category).sum ≤ 8) (hst : st0 = As.reverse ++ rest) (hdg : decode cc pc = .ok (.invokestatic index, 3))
    (kx : ∀ (E : String) (ce : Cell) (q9 : Addr) (ws1 : va_W) (H1 : Heap) (locs1 : List Loc), px E ws1 → WP ε ws1 H1 → WD ε ws1 → WS ε s.heap H1 locs1 → H1[q9]? = some ce → ce.vm = .none → s.vm.findClass E = some ce.cls → vx_W p l e R s m args below meth c H1 locs1 (cells + rm'.cells) (slots + rm'.slots) Q (F0 m pc ls rest) q9)
    (kk : ∀ (v : Option Value) (ws1 : va_W) (H1 : Heap) (locs1 : List Loc), post v ws1 → WP ε ws1 H1 → WD ε ws1 → WS ε s.heap H1 locs1 → W p l e R s m args below meth c H1 locs1 (cells + rm'.cells) (slots + rm'.slots) Q (F0 m (pc + 3) ls (v.toList ++ rest))) : W p l e R s m args below meth c H locs cells slots Q (F0 m pc ls st0) := by
  obtain ⟨hx, hb, hml, ho, hts, -⟩ := hC
  exact c_run (vx_runSX (hh := hh) (Ts := WALL) ⟨hx, hb, hml, ho, hts⟩ hM
    ⟨⟨rfl, rfl, hR.1.1, hR.1.2, c_pay hts w5, List.mem_cons_self⟩, hts _ w5, hts _ w4, hd.1, c_len hd.2, hts _ w1, hts _ w2⟩
    ⟨PR.blind, fun U hU hWU => ⟨rfl, by rw [hU]; exact hE.go hS hWU, by rw [hU]; exact hP, hD⟩⟩ rfl hn hsz hst (lv_room hW) hdg hR.2) hS kx kk
theorem c_callI {y : MethodName} {cc' : ByteArray} {mL' n index b : Nat} {rm' : Room} {As : List Value}
    (hC : CTX p s m args meth c cc mL ret own nm tb) (hE : ENV ε s s.heap) (hP : WP ε ws H) (hD : WD ε ws) (hS : WS ε s.heap H locs) (hsz : ls.size = mL)
    (hM : CT l y cc' mL' none rm' ε (.ref b :: As) ws post NX) (w1 : Cond.methodLink own index y ∈ WALL) (w2 : Cond.instanceMethod y ∈ WALL) (w4 : Cond.initialized y.cls ∈ WALL) (w5 : Cond.code y cc' mL' none ∈ WALL) (hy : y.name = "<init>")
    (hd : (y.cls ≠ "java/lang/invoke/MethodHandle" ∧ y.cls ≠ "java/lang/invoke/VarHandle") ∧ (parseMethodDescriptor y.desc).map (fun d => d.parameters.length) = some n) (hn : As.length = n)
    (hR : (rm'.frames + 1 ≤ R.frames ∧ 8 + (mL' + 11) + rm'.locals ≤ R.locals) ∧ (cells + rm'.cells ≤ R.cells ∧ slots + rm'.slots ≤ R.slots)) (hW : (rest.map fun v => v.category).sum ≤ 8) (hst : st0 = As.reverse ++ .ref b :: rest) (hdg : decode cc pc = .ok (.invokespecial index, 3))
    (kk : ∀ (v : Option Value) (ws1 : va_W) (H1 : Heap) (locs1 : List Loc), post v ws1 → WP ε ws1 H1 → WD ε ws1 → WS ε s.heap H1 locs1 → W p l e R s m args below meth c H1 locs1 (cells + rm'.cells) (slots + rm'.slots) Q (F0 m (pc + 3) ls (v.toList ++ rest))) : W p l e R s m args below meth c H locs cells slots Q (F0 m pc ls st0) := by
  obtain ⟨hx, hb, hml, ho, hts, -⟩ := hC
  exact c_runN (va_runI (Ts := WALL) ⟨hx, hb, hml, ho, hts⟩ (CT.met hM)
    ⟨⟨rfl, rfl, hR.1.1, hR.1.2, c_pay hts w5, List.mem_cons_self, hts _ w5, hts _ w4, hd.1, c_len hd.2, hts _ w1⟩, hy, hts _ w2⟩
    ⟨PR.blind, fun U hU hWU => ⟨rfl, by rw [hU]; exact hE.go hS hWU, by rw [hU]; exact hP, hD⟩⟩ rfl hn hsz hst (lv_room hW) hdg hR.2) hS kk
theorem kxN {mc ms : Nat} : ∀ (E : String) (ce : Cell) (q9 : Addr) (ws1 : va_W) (H1 : Heap) (locs1 : List Loc), NX E ws1 → WP ε ws1 H1 → WD ε ws1 → WS ε s.heap H1 locs1 → H1[q9]? = some ce → ce.vm = .none → s.vm.findClass E = some ce.cls → vx_W p l e R s m args below meth c H1 locs1 (cells + mc) (slots + ms) Q (F0 m pc ls rest) q9 := fun _ _ _ _ _ _ h => h.elim
/-- a throw out of a callee goes on to the caller: no row of the table covers this place -/
theorem c_out {mc ms : Nat} {E : String} {ce : Cell} {q9 : Addr} (hC : CTX p s m args meth c cc mL ret own nm []) (hQ : Q = vx_MQ below (QR ε post) (XR ε px) args s mc ms (AA ε)) (hP : WP ε ws H) (hD : WD ε ws) (hS : WS ε s.heap H locs) (h1 : H[q9]? = some ce) (h2 : ce.vm = .none) (h3 : s.vm.findClass E = some ce.cls) (hc : cells ≤ mc) (hs : slots ≤ ms) (hq : px E ws) : vx_W p l e R s m args below meth c H locs cells slots Q (F0 m pc ls rest) q9 := by
  subst hQ
  obtain ⟨hx, hb, -, -, -, hr, hlk, htb, -⟩ := hC
  refine vx_out (fun x hx9 => by rw [htb] at hx9; exact absurd hx9 List.not_mem_nil) hlk h1 h2 h3 (fun t ht _ => ⟨ws, hq, by rw [ht]; exact hP, hD, va_S.F hS ht⟩) hS.2.2 hc hs
end CR
end
section
/-! what a call asks of a method's name -/
theorem hd_yX0_init : (yX0_init.cls ≠ "java/lang/invoke/MethodHandle" ∧ yX0_init.cls ≠ "java/lang/invoke/VarHandle") ∧ (parseMethodDescriptor yX0_init.desc).map (fun d => d.parameters.length) = some 0 := by decide +kernel
theorem hd_yX0_putIn : (yX0_putIn.cls ≠ "java/lang/invoke/MethodHandle" ∧ yX0_putIn.cls ≠ "java/lang/invoke/VarHandle") ∧ (parseMethodDescriptor yX0_putIn.desc).map (fun d => d.parameters.length) = some 1 := by decide +kernel
theorem hd_yX0_patternOf : (yX0_patternOf.cls ≠ "java/lang/invoke/MethodHandle" ∧ yX0_patternOf.cls ≠ "java/lang/invoke/VarHandle") ∧ (parseMethodDescriptor yX0_patternOf.desc).map (fun d => d.parameters.length) = some 1 := by decide +kernel
theorem hd_yX1_init : (yX1_init.cls ≠ "java/lang/invoke/MethodHandle" ∧ yX1_init.cls ≠ "java/lang/invoke/VarHandle") ∧ (parseMethodDescriptor yX1_init.desc).map (fun d => d.parameters.length) = some 5 := by decide +kernel
theorem hd_yX1_isWithin : (yX1_isWithin.cls ≠ "java/lang/invoke/MethodHandle" ∧ yX1_isWithin.cls ≠ "java/lang/invoke/VarHandle") ∧ (parseMethodDescriptor yX1_isWithin.desc).map (fun d => d.parameters.length) = some 4 := by decide +kernel
theorem hd_yX1_sectorOf : (yX1_sectorOf.cls ≠ "java/lang/invoke/MethodHandle" ∧ yX1_sectorOf.cls ≠ "java/lang/invoke/VarHandle") ∧ (parseMethodDescriptor yX1_sectorOf.desc).map (fun d => d.parameters.length) = some 2 := by decide +kernel
theorem hd_yX1_quarterOf : (yX1_quarterOf.cls ≠ "java/lang/invoke/MethodHandle" ∧ yX1_quarterOf.cls ≠ "java/lang/invoke/VarHandle") ∧ (parseMethodDescriptor yX1_quarterOf.desc).map (fun d => d.parameters.length) = some 2 := by decide +kernel
theorem hd_yX1_canBeSeenFrom : (yX1_canBeSeenFrom.cls ≠ "java/lang/invoke/MethodHandle" ∧ yX1_canBeSeenFrom.cls ≠ "java/lang/invoke/VarHandle") ∧ (parseMethodDescriptor yX1_canBeSeenFrom.desc).map (fun d => d.parameters.length) = some 2 := by decide +kernel
theorem hd_yX1_placesSharedWith : (yX1_placesSharedWith.cls ≠ "java/lang/invoke/MethodHandle" ∧ yX1_placesSharedWith.cls ≠ "java/lang/invoke/VarHandle") ∧ (parseMethodDescriptor yX1_placesSharedWith.desc).map (fun d => d.parameters.length) = some 1 := by decide +kernel
theorem hd_yX2_init : (yX2_init.cls ≠ "java/lang/invoke/MethodHandle" ∧ yX2_init.cls ≠ "java/lang/invoke/VarHandle") ∧ (parseMethodDescriptor yX2_init.desc).map (fun d => d.parameters.length) = some 2 := by decide +kernel
theorem hd_yX3_init : (yX3_init.cls ≠ "java/lang/invoke/MethodHandle" ∧ yX3_init.cls ≠ "java/lang/invoke/VarHandle") ∧ (parseMethodDescriptor yX3_init.desc).map (fun d => d.parameters.length) = some 1 := by decide +kernel
theorem hd_yX3_cycleOf : (yX3_cycleOf.cls ≠ "java/lang/invoke/MethodHandle" ∧ yX3_cycleOf.cls ≠ "java/lang/invoke/VarHandle") ∧ (parseMethodDescriptor yX3_cycleOf.desc).map (fun d => d.parameters.length) = some 1 := by decide +kernel
theorem hd_yX3_repeatsAfter : (yX3_repeatsAfter.cls ≠ "java/lang/invoke/MethodHandle" ∧ yX3_repeatsAfter.cls ≠ "java/lang/invoke/VarHandle") ∧ (parseMethodDescriptor yX3_repeatsAfter.desc).map (fun d => d.parameters.length) = some 2 := by decide +kernel
theorem hd_yX3_isLight : (yX3_isLight.cls ≠ "java/lang/invoke/MethodHandle" ∧ yX3_isLight.cls ≠ "java/lang/invoke/VarHandle") ∧ (parseMethodDescriptor yX3_isLight.desc).map (fun d => d.parameters.length) = some 1 := by decide +kernel
theorem hd_yX3_hasPhasesOf : (yX3_hasPhasesOf.cls ≠ "java/lang/invoke/MethodHandle" ∧ yX3_hasPhasesOf.cls ≠ "java/lang/invoke/VarHandle") ∧ (parseMethodDescriptor yX3_hasPhasesOf.desc).map (fun d => d.parameters.length) = some 1 := by decide +kernel
theorem hd_yX3_hasPhasesTurned : (yX3_hasPhasesTurned.cls ≠ "java/lang/invoke/MethodHandle" ∧ yX3_hasPhasesTurned.cls ≠ "java/lang/invoke/VarHandle") ∧ (parseMethodDescriptor yX3_hasPhasesTurned.desc).map (fun d => d.parameters.length) = some 2 := by decide +kernel
theorem hd_yX3_hasSecondsOf : (yX3_hasSecondsOf.cls ≠ "java/lang/invoke/MethodHandle" ∧ yX3_hasSecondsOf.cls ≠ "java/lang/invoke/VarHandle") ∧ (parseMethodDescriptor yX3_hasSecondsOf.desc).map (fun d => d.parameters.length) = some 1 := by decide +kernel
theorem hd_yX3_hasSecondsLater : (yX3_hasSecondsLater.cls ≠ "java/lang/invoke/MethodHandle" ∧ yX3_hasSecondsLater.cls ≠ "java/lang/invoke/VarHandle") ∧ (parseMethodDescriptor yX3_hasSecondsLater.desc).map (fun d => d.parameters.length) = some 2 := by decide +kernel
theorem hd_yX3_canLookLike : (yX3_canLookLike.cls ≠ "java/lang/invoke/MethodHandle" ∧ yX3_canLookLike.cls ≠ "java/lang/invoke/VarHandle") ∧ (parseMethodDescriptor yX3_canLookLike.desc).map (fun d => d.parameters.length) = some 2 := by decide +kernel
theorem hd_yX3_looksLike : (yX3_looksLike.cls ≠ "java/lang/invoke/MethodHandle" ∧ yX3_looksLike.cls ≠ "java/lang/invoke/VarHandle") ∧ (parseMethodDescriptor yX3_looksLike.desc).map (fun d => d.parameters.length) = some 3 := by decide +kernel
theorem hd_yX4_init : (yX4_init.cls ≠ "java/lang/invoke/MethodHandle" ∧ yX4_init.cls ≠ "java/lang/invoke/VarHandle") ∧ (parseMethodDescriptor yX4_init.desc).map (fun d => d.parameters.length) = some 0 := by decide +kernel
theorem hd_yX4_phase : (yX4_phase.cls ≠ "java/lang/invoke/MethodHandle" ∧ yX4_phase.cls ≠ "java/lang/invoke/VarHandle") ∧ (parseMethodDescriptor yX4_phase.desc).map (fun d => d.parameters.length) = some 1 := by decide +kernel
theorem hd_yX4_pattern : (yX4_pattern.cls ≠ "java/lang/invoke/MethodHandle" ∧ yX4_pattern.cls ≠ "java/lang/invoke/VarHandle") ∧ (parseMethodDescriptor yX4_pattern.desc).map (fun d => d.parameters.length) = some 0 := by decide +kernel
theorem hd_yX4_period : (yX4_period.cls ≠ "java/lang/invoke/MethodHandle" ∧ yX4_period.cls ≠ "java/lang/invoke/VarHandle") ∧ (parseMethodDescriptor yX4_period.desc).map (fun d => d.parameters.length) = some 1 := by decide +kernel
theorem hd_yX4_areAlike : (yX4_areAlike.cls ≠ "java/lang/invoke/MethodHandle" ∧ yX4_areAlike.cls ≠ "java/lang/invoke/VarHandle") ∧ (parseMethodDescriptor yX4_areAlike.desc).map (fun d => d.parameters.length) = some 2 := by decide +kernel
theorem hd_yX4_areAlikeBySeconds : (yX4_areAlikeBySeconds.cls ≠ "java/lang/invoke/MethodHandle" ∧ yX4_areAlikeBySeconds.cls ≠ "java/lang/invoke/VarHandle") ∧ (parseMethodDescriptor yX4_areAlikeBySeconds.desc).map (fun d => d.parameters.length) = some 2 := by decide +kernel
theorem hd_yX4_lamp : (yX4_lamp.cls ≠ "java/lang/invoke/MethodHandle" ∧ yX4_lamp.cls ≠ "java/lang/invoke/VarHandle") ∧ (parseMethodDescriptor yX4_lamp.desc).map (fun d => d.parameters.length) = some 5 := by decide +kernel
theorem hd_yX4_change : (yX4_change.cls ≠ "java/lang/invoke/MethodHandle" ∧ yX4_change.cls ≠ "java/lang/invoke/VarHandle") ∧ (parseMethodDescriptor yX4_change.desc).map (fun d => d.parameters.length) = some 3 := by decide +kernel
theorem hd_yX4_fail : (yX4_fail.cls ≠ "java/lang/invoke/MethodHandle" ∧ yX4_fail.cls ≠ "java/lang/invoke/VarHandle") ∧ (parseMethodDescriptor yX4_fail.desc).map (fun d => d.parameters.length) = some 2 := by decide +kernel
theorem hd_yX4_shines : (yX4_shines.cls ≠ "java/lang/invoke/MethodHandle" ∧ yX4_shines.cls ≠ "java/lang/invoke/VarHandle") ∧ (parseMethodDescriptor yX4_shines.desc).map (fun d => d.parameters.length) = some 2 := by decide +kernel
theorem hd_yX4_sector : (yX4_sector.cls ≠ "java/lang/invoke/MethodHandle" ∧ yX4_sector.cls ≠ "java/lang/invoke/VarHandle") ∧ (parseMethodDescriptor yX4_sector.desc).map (fun d => d.parameters.length) = some 3 := by decide +kernel
theorem hd_yX4_isSeen : (yX4_isSeen.cls ≠ "java/lang/invoke/MethodHandle" ∧ yX4_isSeen.cls ≠ "java/lang/invoke/VarHandle") ∧ (parseMethodDescriptor yX4_isSeen.desc).map (fun d => d.parameters.length) = some 3 := by decide +kernel
theorem hd_yX4_common : (yX4_common.cls ≠ "java/lang/invoke/MethodHandle" ∧ yX4_common.cls ≠ "java/lang/invoke/VarHandle") ∧ (parseMethodDescriptor yX4_common.desc).map (fun d => d.parameters.length) = some 2 := by decide +kernel
theorem hd_yX4_clashes : (yX4_clashes.cls ≠ "java/lang/invoke/MethodHandle" ∧ yX4_clashes.cls ≠ "java/lang/invoke/VarHandle") ∧ (parseMethodDescriptor yX4_clashes.desc).map (fun d => d.parameters.length) = some 0 := by decide +kernel
theorem hd_yX4_notices : (yX4_notices.cls ≠ "java/lang/invoke/MethodHandle" ∧ yX4_notices.cls ≠ "java/lang/invoke/VarHandle") ∧ (parseMethodDescriptor yX4_notices.desc).map (fun d => d.parameters.length) = some 0 := by decide +kernel
theorem hd_yX4_print : (yX4_print.cls ≠ "java/lang/invoke/MethodHandle" ∧ yX4_print.cls ≠ "java/lang/invoke/VarHandle") ∧ (parseMethodDescriptor yX4_print.desc).map (fun d => d.parameters.length) = some 0 := by decide +kernel
theorem hd_yX4_correct : (yX4_correct.cls ≠ "java/lang/invoke/MethodHandle" ∧ yX4_correct.cls ≠ "java/lang/invoke/VarHandle") ∧ (parseMethodDescriptor yX4_correct.desc).map (fun d => d.parameters.length) = some 2 := by decide +kernel
theorem hd_yX4_behind : (yX4_behind.cls ≠ "java/lang/invoke/MethodHandle" ∧ yX4_behind.cls ≠ "java/lang/invoke/VarHandle") ∧ (parseMethodDescriptor yX4_behind.desc).map (fun d => d.parameters.length) = some 1 := by decide +kernel
theorem hd_yX4_shown : (yX4_shown.cls ≠ "java/lang/invoke/MethodHandle" ∧ yX4_shown.cls ≠ "java/lang/invoke/VarHandle") ∧ (parseMethodDescriptor yX4_shown.desc).map (fun d => d.parameters.length) = some 2 := by decide +kernel
theorem hd_yX4_taken : (yX4_taken.cls ≠ "java/lang/invoke/MethodHandle" ∧ yX4_taken.cls ≠ "java/lang/invoke/VarHandle") ∧ (parseMethodDescriptor yX4_taken.desc).map (fun d => d.parameters.length) = some 6 := by decide +kernel
theorem hd_yX4_requireWithin : (yX4_requireWithin.cls ≠ "java/lang/invoke/MethodHandle" ∧ yX4_requireWithin.cls ≠ "java/lang/invoke/VarHandle") ∧ (parseMethodDescriptor yX4_requireWithin.desc).map (fun d => d.parameters.length) = some 3 := by decide +kernel
theorem hd_yX4_requirePlace : (yX4_requirePlace.cls ≠ "java/lang/invoke/MethodHandle" ∧ yX4_requirePlace.cls ≠ "java/lang/invoke/VarHandle") ∧ (parseMethodDescriptor yX4_requirePlace.desc).map (fun d => d.parameters.length) = some 2 := by decide +kernel
theorem hd_yX4_requirePattern : (yX4_requirePattern.cls ≠ "java/lang/invoke/MethodHandle" ∧ yX4_requirePattern.cls ≠ "java/lang/invoke/VarHandle") ∧ (parseMethodDescriptor yX4_requirePattern.desc).map (fun d => d.parameters.length) = some 1 := by decide +kernel
theorem hd_yX4_requireLamp : (yX4_requireLamp.cls ≠ "java/lang/invoke/MethodHandle" ∧ yX4_requireLamp.cls ≠ "java/lang/invoke/VarHandle") ∧ (parseMethodDescriptor yX4_requireLamp.desc).map (fun d => d.parameters.length) = some 1 := by decide +kernel
theorem hd_yX4_patternAt : (yX4_patternAt.cls ≠ "java/lang/invoke/MethodHandle" ∧ yX4_patternAt.cls ≠ "java/lang/invoke/VarHandle") ∧ (parseMethodDescriptor yX4_patternAt.desc).map (fun d => d.parameters.length) = some 1 := by decide +kernel
theorem hd_yX4_lampAt : (yX4_lampAt.cls ≠ "java/lang/invoke/MethodHandle" ∧ yX4_lampAt.cls ≠ "java/lang/invoke/VarHandle") ∧ (parseMethodDescriptor yX4_lampAt.desc).map (fun d => d.parameters.length) = some 1 := by decide +kernel
theorem hd_yX4_chartAt : (yX4_chartAt.cls ≠ "java/lang/invoke/MethodHandle" ∧ yX4_chartAt.cls ≠ "java/lang/invoke/VarHandle") ∧ (parseMethodDescriptor yX4_chartAt.desc).map (fun d => d.parameters.length) = some 1 := by decide +kernel
theorem hd_yX4_isLit : (yX4_isLit.cls ≠ "java/lang/invoke/MethodHandle" ∧ yX4_isLit.cls ≠ "java/lang/invoke/VarHandle") ∧ (parseMethodDescriptor yX4_isLit.desc).map (fun d => d.parameters.length) = some 2 := by decide +kernel
theorem hd_yX4_clash : (yX4_clash.cls ≠ "java/lang/invoke/MethodHandle" ∧ yX4_clash.cls ≠ "java/lang/invoke/VarHandle") ∧ (parseMethodDescriptor yX4_clash.desc).map (fun d => d.parameters.length) = some 2 := by decide +kernel
theorem hd_yX4_tell : (yX4_tell.cls ≠ "java/lang/invoke/MethodHandle" ∧ yX4_tell.cls ≠ "java/lang/invoke/VarHandle") ∧ (parseMethodDescriptor yX4_tell.desc).map (fun d => d.parameters.length) = some 1 := by decide +kernel
theorem hd_yX4_lackOf : (yX4_lackOf.cls ≠ "java/lang/invoke/MethodHandle" ∧ yX4_lackOf.cls ≠ "java/lang/invoke/VarHandle") ∧ (parseMethodDescriptor yX4_lackOf.desc).map (fun d => d.parameters.length) = some 1 := by decide +kernel
theorem hd_yX4_putIn : (yX4_putIn.cls ≠ "java/lang/invoke/MethodHandle" ∧ yX4_putIn.cls ≠ "java/lang/invoke/VarHandle") ∧ (parseMethodDescriptor yX4_putIn.desc).map (fun d => d.parameters.length) = some 2 := by decide +kernel
theorem hd_yX4_lookAt : (yX4_lookAt.cls ≠ "java/lang/invoke/MethodHandle" ∧ yX4_lookAt.cls ≠ "java/lang/invoke/VarHandle") ∧ (parseMethodDescriptor yX4_lookAt.desc).map (fun d => d.parameters.length) = some 3 := by decide +kernel
theorem hd_yX5_init : (yX5_init.cls ≠ "java/lang/invoke/MethodHandle" ∧ yX5_init.cls ≠ "java/lang/invoke/VarHandle") ∧ (parseMethodDescriptor yX5_init.desc).map (fun d => d.parameters.length) = some 0 := by decide +kernel
theorem hd_yX5_thrown : (yX5_thrown.cls ≠ "java/lang/invoke/MethodHandle" ∧ yX5_thrown.cls ≠ "java/lang/invoke/VarHandle") ∧ (parseMethodDescriptor yX5_thrown.desc).map (fun d => d.parameters.length) = some 0 := by decide +kernel
theorem hd_yX5_isIn : (yX5_isIn.cls ≠ "java/lang/invoke/MethodHandle" ∧ yX5_isIn.cls ≠ "java/lang/invoke/VarHandle") ∧ (parseMethodDescriptor yX5_isIn.desc).map (fun d => d.parameters.length) = some 3 := by decide +kernel
theorem hd_yX5_isPattern : (yX5_isPattern.cls ≠ "java/lang/invoke/MethodHandle" ∧ yX5_isPattern.cls ≠ "java/lang/invoke/VarHandle") ∧ (parseMethodDescriptor yX5_isPattern.desc).map (fun d => d.parameters.length) = some 1 := by decide +kernel
theorem hd_yX5_isLamp : (yX5_isLamp.cls ≠ "java/lang/invoke/MethodHandle" ∧ yX5_isLamp.cls ≠ "java/lang/invoke/VarHandle") ∧ (parseMethodDescriptor yX5_isLamp.desc).map (fun d => d.parameters.length) = some 1 := by decide +kernel
theorem hd_yX5_isChart : (yX5_isChart.cls ≠ "java/lang/invoke/MethodHandle" ∧ yX5_isChart.cls ≠ "java/lang/invoke/VarHandle") ∧ (parseMethodDescriptor yX5_isChart.desc).map (fun d => d.parameters.length) = some 1 := by decide +kernel
theorem hd_yX5_isPlace : (yX5_isPlace.cls ≠ "java/lang/invoke/MethodHandle" ∧ yX5_isPlace.cls ≠ "java/lang/invoke/VarHandle") ∧ (parseMethodDescriptor yX5_isPlace.desc).map (fun d => d.parameters.length) = some 2 := by decide +kernel
theorem hd_yX5_phase : (yX5_phase.cls ≠ "java/lang/invoke/MethodHandle" ∧ yX5_phase.cls ≠ "java/lang/invoke/VarHandle") ∧ (parseMethodDescriptor yX5_phase.desc).map (fun d => d.parameters.length) = some 1 := by decide +kernel
theorem hd_yX5_pattern : (yX5_pattern.cls ≠ "java/lang/invoke/MethodHandle" ∧ yX5_pattern.cls ≠ "java/lang/invoke/VarHandle") ∧ (parseMethodDescriptor yX5_pattern.desc).map (fun d => d.parameters.length) = some 0 := by decide +kernel
theorem hd_yX5_period : (yX5_period.cls ≠ "java/lang/invoke/MethodHandle" ∧ yX5_period.cls ≠ "java/lang/invoke/VarHandle") ∧ (parseMethodDescriptor yX5_period.desc).map (fun d => d.parameters.length) = some 1 := by decide +kernel
theorem hd_yX5_isLight : (yX5_isLight.cls ≠ "java/lang/invoke/MethodHandle" ∧ yX5_isLight.cls ≠ "java/lang/invoke/VarHandle") ∧ (parseMethodDescriptor yX5_isLight.desc).map (fun d => d.parameters.length) = some 2 := by decide +kernel
theorem hd_yX5_returns : (yX5_returns.cls ≠ "java/lang/invoke/MethodHandle" ∧ yX5_returns.cls ≠ "java/lang/invoke/VarHandle") ∧ (parseMethodDescriptor yX5_returns.desc).map (fun d => d.parameters.length) = some 1 := by decide +kernel
theorem hd_yX5_alike : (yX5_alike.cls ≠ "java/lang/invoke/MethodHandle" ∧ yX5_alike.cls ≠ "java/lang/invoke/VarHandle") ∧ (parseMethodDescriptor yX5_alike.desc).map (fun d => d.parameters.length) = some 2 := by decide +kernel
theorem hd_yX5_asksAlike : (yX5_asksAlike.cls ≠ "java/lang/invoke/MethodHandle" ∧ yX5_asksAlike.cls ≠ "java/lang/invoke/VarHandle") ∧ (parseMethodDescriptor yX5_asksAlike.desc).map (fun d => d.parameters.length) = some 2 := by decide +kernel
theorem hd_yX5_areAlike : (yX5_areAlike.cls ≠ "java/lang/invoke/MethodHandle" ∧ yX5_areAlike.cls ≠ "java/lang/invoke/VarHandle") ∧ (parseMethodDescriptor yX5_areAlike.desc).map (fun d => d.parameters.length) = some 2 := by decide +kernel
theorem hd_yX5_areAlikeBySeconds : (yX5_areAlikeBySeconds.cls ≠ "java/lang/invoke/MethodHandle" ∧ yX5_areAlikeBySeconds.cls ≠ "java/lang/invoke/VarHandle") ∧ (parseMethodDescriptor yX5_areAlikeBySeconds.desc).map (fun d => d.parameters.length) = some 2 := by decide +kernel
theorem hd_yX5_tells : (yX5_tells.cls ≠ "java/lang/invoke/MethodHandle" ∧ yX5_tells.cls ≠ "java/lang/invoke/VarHandle") ∧ (parseMethodDescriptor yX5_tells.desc).map (fun d => d.parameters.length) = some 1 := by decide +kernel
theorem hd_yX5_lamp : (yX5_lamp.cls ≠ "java/lang/invoke/MethodHandle" ∧ yX5_lamp.cls ≠ "java/lang/invoke/VarHandle") ∧ (parseMethodDescriptor yX5_lamp.desc).map (fun d => d.parameters.length) = some 5 := by decide +kernel
theorem hd_yX5_change : (yX5_change.cls ≠ "java/lang/invoke/MethodHandle" ∧ yX5_change.cls ≠ "java/lang/invoke/VarHandle") ∧ (parseMethodDescriptor yX5_change.desc).map (fun d => d.parameters.length) = some 3 := by decide +kernel
theorem hd_yX5_fail : (yX5_fail.cls ≠ "java/lang/invoke/MethodHandle" ∧ yX5_fail.cls ≠ "java/lang/invoke/VarHandle") ∧ (parseMethodDescriptor yX5_fail.desc).map (fun d => d.parameters.length) = some 2 := by decide +kernel
theorem hd_yX5_isOn : (yX5_isOn.cls ≠ "java/lang/invoke/MethodHandle" ∧ yX5_isOn.cls ≠ "java/lang/invoke/VarHandle") ∧ (parseMethodDescriptor yX5_isOn.desc).map (fun d => d.parameters.length) = some 2 := by decide +kernel
theorem hd_yX5_shines : (yX5_shines.cls ≠ "java/lang/invoke/MethodHandle" ∧ yX5_shines.cls ≠ "java/lang/invoke/VarHandle") ∧ (parseMethodDescriptor yX5_shines.desc).map (fun d => d.parameters.length) = some 2 := by decide +kernel
theorem hd_yX5_sectorOf : (yX5_sectorOf.cls ≠ "java/lang/invoke/MethodHandle" ∧ yX5_sectorOf.cls ≠ "java/lang/invoke/VarHandle") ∧ (parseMethodDescriptor yX5_sectorOf.desc).map (fun d => d.parameters.length) = some 3 := by decide +kernel
theorem hd_yX5_sees : (yX5_sees.cls ≠ "java/lang/invoke/MethodHandle" ∧ yX5_sees.cls ≠ "java/lang/invoke/VarHandle") ∧ (parseMethodDescriptor yX5_sees.desc).map (fun d => d.parameters.length) = some 3 := by decide +kernel
theorem hd_yX5_asks : (yX5_asks.cls ≠ "java/lang/invoke/MethodHandle" ∧ yX5_asks.cls ≠ "java/lang/invoke/VarHandle") ∧ (parseMethodDescriptor yX5_asks.desc).map (fun d => d.parameters.length) = some 3 := by decide +kernel
theorem hd_yX5_sector : (yX5_sector.cls ≠ "java/lang/invoke/MethodHandle" ∧ yX5_sector.cls ≠ "java/lang/invoke/VarHandle") ∧ (parseMethodDescriptor yX5_sector.desc).map (fun d => d.parameters.length) = some 3 := by decide +kernel
theorem hd_yX5_isSeen : (yX5_isSeen.cls ≠ "java/lang/invoke/MethodHandle" ∧ yX5_isSeen.cls ≠ "java/lang/invoke/VarHandle") ∧ (parseMethodDescriptor yX5_isSeen.desc).map (fun d => d.parameters.length) = some 3 := by decide +kernel
theorem hd_yX5_both : (yX5_both.cls ≠ "java/lang/invoke/MethodHandle" ∧ yX5_both.cls ≠ "java/lang/invoke/VarHandle") ∧ (parseMethodDescriptor yX5_both.desc).map (fun d => d.parameters.length) = some 2 := by decide +kernel
theorem hd_yX5_common : (yX5_common.cls ≠ "java/lang/invoke/MethodHandle" ∧ yX5_common.cls ≠ "java/lang/invoke/VarHandle") ∧ (parseMethodDescriptor yX5_common.desc).map (fun d => d.parameters.length) = some 2 := by decide +kernel
theorem hd_yX5_clashes : (yX5_clashes.cls ≠ "java/lang/invoke/MethodHandle" ∧ yX5_clashes.cls ≠ "java/lang/invoke/VarHandle") ∧ (parseMethodDescriptor yX5_clashes.desc).map (fun d => d.parameters.length) = some 0 := by decide +kernel
theorem hd_yX5_notices : (yX5_notices.cls ≠ "java/lang/invoke/MethodHandle" ∧ yX5_notices.cls ≠ "java/lang/invoke/VarHandle") ∧ (parseMethodDescriptor yX5_notices.desc).map (fun d => d.parameters.length) = some 0 := by decide +kernel
theorem hd_yX5_puts : (yX5_puts.cls ≠ "java/lang/invoke/MethodHandle" ∧ yX5_puts.cls ≠ "java/lang/invoke/VarHandle") ∧ (parseMethodDescriptor yX5_puts.desc).map (fun d => d.parameters.length) = some 2 := by decide +kernel
theorem hd_yX5_print : (yX5_print.cls ≠ "java/lang/invoke/MethodHandle" ∧ yX5_print.cls ≠ "java/lang/invoke/VarHandle") ∧ (parseMethodDescriptor yX5_print.desc).map (fun d => d.parameters.length) = some 0 := by decide +kernel
theorem hd_yX5_correct : (yX5_correct.cls ≠ "java/lang/invoke/MethodHandle" ∧ yX5_correct.cls ≠ "java/lang/invoke/VarHandle") ∧ (parseMethodDescriptor yX5_correct.desc).map (fun d => d.parameters.length) = some 2 := by decide +kernel
theorem hd_yX5_behind : (yX5_behind.cls ≠ "java/lang/invoke/MethodHandle" ∧ yX5_behind.cls ≠ "java/lang/invoke/VarHandle") ∧ (parseMethodDescriptor yX5_behind.desc).map (fun d => d.parameters.length) = some 1 := by decide +kernel
theorem hd_yX5_shown : (yX5_shown.cls ≠ "java/lang/invoke/MethodHandle" ∧ yX5_shown.cls ≠ "java/lang/invoke/VarHandle") ∧ (parseMethodDescriptor yX5_shown.desc).map (fun d => d.parameters.length) = some 2 := by decide +kernel
theorem hd_yX5_could : (yX5_could.cls ≠ "java/lang/invoke/MethodHandle" ∧ yX5_could.cls ≠ "java/lang/invoke/VarHandle") ∧ (parseMethodDescriptor yX5_could.desc).map (fun d => d.parameters.length) = some 4 := by decide +kernel
theorem hd_yX5_taken : (yX5_taken.cls ≠ "java/lang/invoke/MethodHandle" ∧ yX5_taken.cls ≠ "java/lang/invoke/VarHandle") ∧ (parseMethodDescriptor yX5_taken.desc).map (fun d => d.parameters.length) = some 6 := by decide +kernel
theorem hd_yJ6_bitCount_0f7a4 : (yJ6_bitCount_0f7a4.cls ≠ "java/lang/invoke/MethodHandle" ∧ yJ6_bitCount_0f7a4.cls ≠ "java/lang/invoke/VarHandle") ∧ (parseMethodDescriptor yJ6_bitCount_0f7a4.desc).map (fun d => d.parameters.length) = some 1 := by decide +kernel
theorem hd_yJxa1e45_init_da8c8 : (yJxa1e45_init_da8c8.cls ≠ "java/lang/invoke/MethodHandle" ∧ yJxa1e45_init_da8c8.cls ≠ "java/lang/invoke/VarHandle") ∧ (parseMethodDescriptor yJxa1e45_init_da8c8.desc).map (fun d => d.parameters.length) = some 0 := by decide +kernel
theorem hd_yJxc12de_init_da8c8 : (yJxc12de_init_da8c8.cls ≠ "java/lang/invoke/MethodHandle" ∧ yJxc12de_init_da8c8.cls ≠ "java/lang/invoke/VarHandle") ∧ (parseMethodDescriptor yJxc12de_init_da8c8.desc).map (fun d => d.parameters.length) = some 0 := by decide +kernel
theorem hd_yJx4a65c_init_da8c8 : (yJx4a65c_init_da8c8.cls ≠ "java/lang/invoke/MethodHandle" ∧ yJx4a65c_init_da8c8.cls ≠ "java/lang/invoke/VarHandle") ∧ (parseMethodDescriptor yJx4a65c_init_da8c8.desc).map (fun d => d.parameters.length) = some 0 := by decide +kernel
theorem hd_yJx4a65c_grow_92f84 : (yJx4a65c_grow_92f84.cls ≠ "java/lang/invoke/MethodHandle" ∧ yJx4a65c_grow_92f84.cls ≠ "java/lang/invoke/VarHandle") ∧ (parseMethodDescriptor yJx4a65c_grow_92f84.desc).map (fun d => d.parameters.length) = some 1 := by decide +kernel
theorem hd_yJx4a65c_grow_d5877 : (yJx4a65c_grow_d5877.cls ≠ "java/lang/invoke/MethodHandle" ∧ yJx4a65c_grow_d5877.cls ≠ "java/lang/invoke/VarHandle") ∧ (parseMethodDescriptor yJx4a65c_grow_d5877.desc).map (fun d => d.parameters.length) = some 0 := by decide +kernel
theorem hd_yJx4a65c_size_8abf5 : (yJx4a65c_size_8abf5.cls ≠ "java/lang/invoke/MethodHandle" ∧ yJx4a65c_size_8abf5.cls ≠ "java/lang/invoke/VarHandle") ∧ (parseMethodDescriptor yJx4a65c_size_8abf5.desc).map (fun d => d.parameters.length) = some 0 := by decide +kernel
theorem hd_yJx4a65c_elementData_915e3 : (yJx4a65c_elementData_915e3.cls ≠ "java/lang/invoke/MethodHandle" ∧ yJx4a65c_elementData_915e3.cls ≠ "java/lang/invoke/VarHandle") ∧ (parseMethodDescriptor yJx4a65c_elementData_915e3.desc).map (fun d => d.parameters.length) = some 1 := by decide +kernel
theorem hd_yJx4a65c_get_915e3 : (yJx4a65c_get_915e3.cls ≠ "java/lang/invoke/MethodHandle" ∧ yJx4a65c_get_915e3.cls ≠ "java/lang/invoke/VarHandle") ∧ (parseMethodDescriptor yJx4a65c_get_915e3.desc).map (fun d => d.parameters.length) = some 1 := by decide +kernel
theorem hd_yJx4a65c_add_72be8 : (yJx4a65c_add_72be8.cls ≠ "java/lang/invoke/MethodHandle" ∧ yJx4a65c_add_72be8.cls ≠ "java/lang/invoke/VarHandle") ∧ (parseMethodDescriptor yJx4a65c_add_72be8.desc).map (fun d => d.parameters.length) = some 3 := by decide +kernel
theorem hd_yJx4a65c_add_9ea2d : (yJx4a65c_add_9ea2d.cls ≠ "java/lang/invoke/MethodHandle" ∧ yJx4a65c_add_9ea2d.cls ≠ "java/lang/invoke/VarHandle") ∧ (parseMethodDescriptor yJx4a65c_add_9ea2d.desc).map (fun d => d.parameters.length) = some 1 := by decide +kernel
theorem hd_yJ7_fill_53178 : (yJ7_fill_53178.cls ≠ "java/lang/invoke/MethodHandle" ∧ yJ7_fill_53178.cls ≠ "java/lang/invoke/VarHandle") ∧ (parseMethodDescriptor yJ7_fill_53178.desc).map (fun d => d.parameters.length) = some 2 := by decide +kernel
theorem hd_yJ7_copyOf_1904c : (yJ7_copyOf_1904c.cls ≠ "java/lang/invoke/MethodHandle" ∧ yJ7_copyOf_1904c.cls ≠ "java/lang/invoke/VarHandle") ∧ (parseMethodDescriptor yJ7_copyOf_1904c.desc).map (fun d => d.parameters.length) = some 2 := by decide +kernel
theorem hd_yJ7_copyOf_6403c : (yJ7_copyOf_6403c.cls ≠ "java/lang/invoke/MethodHandle" ∧ yJ7_copyOf_6403c.cls ≠ "java/lang/invoke/VarHandle") ∧ (parseMethodDescriptor yJ7_copyOf_6403c.desc).map (fun d => d.parameters.length) = some 3 := by decide +kernel
theorem hd_yJ7_copyOf_59c91 : (yJ7_copyOf_59c91.cls ≠ "java/lang/invoke/MethodHandle" ∧ yJ7_copyOf_59c91.cls ≠ "java/lang/invoke/VarHandle") ∧ (parseMethodDescriptor yJ7_copyOf_59c91.desc).map (fun d => d.parameters.length) = some 2 := by decide +kernel
theorem hd_yJ15_checkIndex_7cf53 : (yJ15_checkIndex_7cf53.cls ≠ "java/lang/invoke/MethodHandle" ∧ yJ15_checkIndex_7cf53.cls ≠ "java/lang/invoke/VarHandle") ∧ (parseMethodDescriptor yJ15_checkIndex_7cf53.desc).map (fun d => d.parameters.length) = some 2 := by decide +kernel
theorem hd_yJ8_newLength_cabcc : (yJ8_newLength_cabcc.cls ≠ "java/lang/invoke/MethodHandle" ∧ yJ8_newLength_cabcc.cls ≠ "java/lang/invoke/VarHandle") ∧ (parseMethodDescriptor yJ8_newLength_cabcc.desc).map (fun d => d.parameters.length) = some 3 := by decide +kernel
theorem hd_yJ8_hugeLength_7cf53 : (yJ8_hugeLength_7cf53.cls ≠ "java/lang/invoke/MethodHandle" ∧ yJ8_hugeLength_7cf53.cls ≠ "java/lang/invoke/VarHandle") ∧ (parseMethodDescriptor yJ8_hugeLength_7cf53.desc).map (fun d => d.parameters.length) = some 2 := by decide +kernel
theorem hd_yJ3_checkIndex_8e157 : (yJ3_checkIndex_8e157.cls ≠ "java/lang/invoke/MethodHandle" ∧ yJ3_checkIndex_8e157.cls ≠ "java/lang/invoke/VarHandle") ∧ (parseMethodDescriptor yJ3_checkIndex_8e157.desc).map (fun d => d.parameters.length) = some 3 := by decide +kernel
theorem hd_yL_phase : (yL_phase.cls ≠ "java/lang/invoke/MethodHandle" ∧ yL_phase.cls ≠ "java/lang/invoke/VarHandle") ∧ (parseMethodDescriptor yL_phase.desc).map (fun d => d.parameters.length) = some 3 := by decide +kernel
theorem hd_yL_pattern : (yL_pattern.cls ≠ "java/lang/invoke/MethodHandle" ∧ yL_pattern.cls ≠ "java/lang/invoke/VarHandle") ∧ (parseMethodDescriptor yL_pattern.desc).map (fun d => d.parameters.length) = some 2 := by decide +kernel
theorem hd_yL_period : (yL_period.cls ≠ "java/lang/invoke/MethodHandle" ∧ yL_period.cls ≠ "java/lang/invoke/VarHandle") ∧ (parseMethodDescriptor yL_period.desc).map (fun d => d.parameters.length) = some 3 := by decide +kernel
theorem hd_yL_areAlike : (yL_areAlike.cls ≠ "java/lang/invoke/MethodHandle" ∧ yL_areAlike.cls ≠ "java/lang/invoke/VarHandle") ∧ (parseMethodDescriptor yL_areAlike.desc).map (fun d => d.parameters.length) = some 4 := by decide +kernel
theorem hd_yL_areAlikeBySeconds : (yL_areAlikeBySeconds.cls ≠ "java/lang/invoke/MethodHandle" ∧ yL_areAlikeBySeconds.cls ≠ "java/lang/invoke/VarHandle") ∧ (parseMethodDescriptor yL_areAlikeBySeconds.desc).map (fun d => d.parameters.length) = some 4 := by decide +kernel
theorem hd_yL_lamp : (yL_lamp.cls ≠ "java/lang/invoke/MethodHandle" ∧ yL_lamp.cls ≠ "java/lang/invoke/VarHandle") ∧ (parseMethodDescriptor yL_lamp.desc).map (fun d => d.parameters.length) = some 7 := by decide +kernel
theorem hd_yL_change : (yL_change.cls ≠ "java/lang/invoke/MethodHandle" ∧ yL_change.cls ≠ "java/lang/invoke/VarHandle") ∧ (parseMethodDescriptor yL_change.desc).map (fun d => d.parameters.length) = some 5 := by decide +kernel
theorem hd_yL_fail : (yL_fail.cls ≠ "java/lang/invoke/MethodHandle" ∧ yL_fail.cls ≠ "java/lang/invoke/VarHandle") ∧ (parseMethodDescriptor yL_fail.desc).map (fun d => d.parameters.length) = some 4 := by decide +kernel
theorem hd_yL_shines : (yL_shines.cls ≠ "java/lang/invoke/MethodHandle" ∧ yL_shines.cls ≠ "java/lang/invoke/VarHandle") ∧ (parseMethodDescriptor yL_shines.desc).map (fun d => d.parameters.length) = some 4 := by decide +kernel
theorem hd_yL_sector : (yL_sector.cls ≠ "java/lang/invoke/MethodHandle" ∧ yL_sector.cls ≠ "java/lang/invoke/VarHandle") ∧ (parseMethodDescriptor yL_sector.desc).map (fun d => d.parameters.length) = some 5 := by decide +kernel
theorem hd_yL_isSeen : (yL_isSeen.cls ≠ "java/lang/invoke/MethodHandle" ∧ yL_isSeen.cls ≠ "java/lang/invoke/VarHandle") ∧ (parseMethodDescriptor yL_isSeen.desc).map (fun d => d.parameters.length) = some 5 := by decide +kernel
theorem hd_yL_common : (yL_common.cls ≠ "java/lang/invoke/MethodHandle" ∧ yL_common.cls ≠ "java/lang/invoke/VarHandle") ∧ (parseMethodDescriptor yL_common.desc).map (fun d => d.parameters.length) = some 4 := by decide +kernel
theorem hd_yL_print : (yL_print.cls ≠ "java/lang/invoke/MethodHandle" ∧ yL_print.cls ≠ "java/lang/invoke/VarHandle") ∧ (parseMethodDescriptor yL_print.desc).map (fun d => d.parameters.length) = some 2 := by decide +kernel
theorem hd_yL_correct : (yL_correct.cls ≠ "java/lang/invoke/MethodHandle" ∧ yL_correct.cls ≠ "java/lang/invoke/VarHandle") ∧ (parseMethodDescriptor yL_correct.desc).map (fun d => d.parameters.length) = some 4 := by decide +kernel
theorem hd_yL_behind : (yL_behind.cls ≠ "java/lang/invoke/MethodHandle" ∧ yL_behind.cls ≠ "java/lang/invoke/VarHandle") ∧ (parseMethodDescriptor yL_behind.desc).map (fun d => d.parameters.length) = some 3 := by decide +kernel
theorem hd_yL_shown : (yL_shown.cls ≠ "java/lang/invoke/MethodHandle" ∧ yL_shown.cls ≠ "java/lang/invoke/VarHandle") ∧ (parseMethodDescriptor yL_shown.desc).map (fun d => d.parameters.length) = some 4 := by decide +kernel
theorem hd_yL_taken : (yL_taken.cls ≠ "java/lang/invoke/MethodHandle" ∧ yL_taken.cls ≠ "java/lang/invoke/VarHandle") ∧ (parseMethodDescriptor yL_taken.desc).map (fun d => d.parameters.length) = some 8 := by decide +kernel
end
section
/-! the reference: one object, fourteen arrays; n its numbers, G its rows -/
def fM (ad : Nat → Nat) (n : Nat → Int) : List Value := [.ref (ad 0), .int (iv (n 0)), .int (iv (n 1)), .ref (ad 1), .ref (ad 2), .ref (ad 3), .int (iv (n 2)), .ref (ad 4), .ref (ad 5), .ref (ad 6), .ref (ad 7), .ref (ad 8), .ref (ad 9), .ref (ad 10), .ref (ad 11), .int (iv (n 3)), .int (iv (n 4)), .ref (ad 12), .ref (ad 13), .int (iv (n 5))]
def wM (ε : EV) (m : Nat) (ad : Nat → Nat) (n : Nat → Int) (G : Nat → Nat → Int) : va_W := [(m, .inr (6, fM ad n)), (ad 0, (eI ε 6 (G 0))), (ad 1, (eI ε 120 (G 1))), (ad 2, (eI ε 20 (G 2))), (ad 3, (eI ε 20 (G 3))), (ad 4, (eI ε 12 (G 4))), (ad 5, (eI ε 12 (G 5))), (ad 6, (eI ε 12 (G 6))), (ad 7, (eI ε 12 (G 7))), (ad 8, (eI ε 12 (G 8))), (ad 9, (eI ε 12 (G 9))), (ad 10, (eZ ε 12 (G 10))), (ad 11, (eI ε 4200 (G 11))), (ad 12, (eI ε 10 (G 12))), (ad 13, (eI ε 120 (G 13)))]
section MW
variable {ε : EV} {m : Nat} {ad : Nat → Nat} {n : Nat → Int} {G : Nat → Nat → Int} {R : va_W}
theorem wM_o : In (wM ε m ad n G ++ R) m (.inr (6, fM ad n)) := ⟨0, rfl⟩
theorem wM_0 : In (wM ε m ad n G ++ R) (ad 0) (eI ε 6 (G 0)) := ⟨1, rfl⟩
theorem wM_1 : In (wM ε m ad n G ++ R) (ad 1) (eI ε 120 (G 1)) := ⟨2, rfl⟩
theorem wM_2 : In (wM ε m ad n G ++ R) (ad 2) (eI ε 20 (G 2)) := ⟨3, rfl⟩
theorem wM_3 : In (wM ε m ad n G ++ R) (ad 3) (eI ε 20 (G 3)) := ⟨4, rfl⟩
theorem wM_4 : In (wM ε m ad n G ++ R) (ad 4) (eI ε 12 (G 4)) := ⟨5, rfl⟩
theorem wM_5 : In (wM ε m ad n G ++ R) (ad 5) (eI ε 12 (G 5)) := ⟨6, rfl⟩
theorem wM_6 : In (wM ε m ad n G ++ R) (ad 6) (eI ε 12 (G 6)) := ⟨7, rfl⟩
theorem wM_7 : In (wM ε m ad n G ++ R) (ad 7) (eI ε 12 (G 7)) := ⟨8, rfl⟩
theorem wM_8 : In (wM ε m ad n G ++ R) (ad 8) (eI ε 12 (G 8)) := ⟨9, rfl⟩
theorem wM_9 : In (wM ε m ad n G ++ R) (ad 9) (eI ε 12 (G 9)) := ⟨10, rfl⟩
theorem wM_10 : In (wM ε m ad n G ++ R) (ad 10) (eZ ε 12 (G 10)) := ⟨11, rfl⟩
theorem wM_11 : In (wM ε m ad n G ++ R) (ad 11) (eI ε 4200 (G 11)) := ⟨12, rfl⟩
theorem wM_12 : In (wM ε m ad n G ++ R) (ad 12) (eI ε 10 (G 12)) := ⟨13, rfl⟩
theorem wM_13 : In (wM ε m ad n G ++ R) (ad 13) (eI ε 120 (G 13)) := ⟨14, rfl⟩
end MW
section MR
variable {p : Program} {l : Launch} {e : Env} {R : Room} {s : State} {m : MethodId} {args : Array Value} {below : List Frame} {meth : Method} {c : Code} {H H0 : Heap} {locs : List Loc} {cells slots : Nat} {Q : State → Prop}
variable {cc : ByteArray} {pc : Nat} {ls : Array Slot} {rest : List Value} {ε : EV} {X : va_W} {a : Nat} {ad : Nat → Nat} {n : Nat → Int} {G : Nat → Nat → Int} {mL : Nat} {ret : Option FieldType} {own nm : String} {tb : List ExceptionTableEntry}
theorem m_put0 (hC : CTX p s m args meth c cc mL ret own nm tb) (hK : WK ε s) (hP : WP ε (wM ε a ad n G ++ X) H) (hD : WD ε (wM ε a ad n G ++ X)) (hS : WS ε H0 H locs) {index : Nat} (hlink : Cond.fieldLink own index RX5 (TX5 1).2.1 (TX5 1).2.2.1 ∈ WALL) {v : Int} (hdg : decode cc pc = .ok (.putfield index, 3))
    (kk : ∀ (H1 : Heap) (locs1 : List Loc), WP ε (wM ε a ad (va_up n 0 v) G ++ X) H1 → WD ε (wM ε a ad (va_up n 0 v) G ++ X) → WS ε H0 H1 locs1 → W p l e R s m args below meth c H1 locs1 cells slots Q (F0 m (pc + 3) ls rest)) : W p l e R s m args below meth c H locs cells slots Q (F0 m pc ls (.int (iv v) :: .ref a :: rest)) := by
  obtain ⟨hx, hb, -, ho, hts, -⟩ := hC
  refine va_put (own := own) (ref := RX5) (C := RX5) (T := TX5) (N := 20) (ci := 6) hx hb hts (fun w h => wt_1 w h) tyX5 tyX5_ok nmX5 ho hK hP hD hS 0 (fs := fM ad n) rfl rfl 1 (by decide) (hts _ hlink) (fun _ h => h) rfl (ty := .int) rfl rfl rfl (by show 1 < 20; decide) hdg (fun H1 locs1 h1 h2 h3 => ?_)
  exact kk H1 locs1 h1 h2 h3
theorem m_put1 (hC : CTX p s m args meth c cc mL ret own nm tb) (hK : WK ε s) (hP : WP ε (wM ε a ad n G ++ X) H) (hD : WD ε (wM ε a ad n G ++ X)) (hS : WS ε H0 H locs) {index : Nat} (hlink : Cond.fieldLink own index RX5 (TX5 2).2.1 (TX5 2).2.2.1 ∈ WALL) {v : Int} (hdg : decode cc pc = .ok (.putfield index, 3))
    (kk : ∀ (H1 : Heap) (locs1 : List Loc), WP ε (wM ε a ad (va_up n 1 v) G ++ X) H1 → WD ε (wM ε a ad (va_up n 1 v) G ++ X) → WS ε H0 H1 locs1 → W p l e R s m args below meth c H1 locs1 cells slots Q (F0 m (pc + 3) ls rest)) : W p l e R s m args below meth c H locs cells slots Q (F0 m pc ls (.int (iv v) :: .ref a :: rest)) := by
  obtain ⟨hx, hb, -, ho, hts, -⟩ := hC
  refine va_put (own := own) (ref := RX5) (C := RX5) (T := TX5) (N := 20) (ci := 6) hx hb hts (fun w h => wt_1 w h) tyX5 tyX5_ok nmX5 ho hK hP hD hS 0 (fs := fM ad n) rfl rfl 2 (by decide) (hts _ hlink) (fun _ h => h) rfl (ty := .int) rfl rfl rfl (by show 2 < 20; decide) hdg (fun H1 locs1 h1 h2 h3 => ?_)
  exact kk H1 locs1 h1 h2 h3
theorem m_put2 (hC : CTX p s m args meth c cc mL ret own nm tb) (hK : WK ε s) (hP : WP ε (wM ε a ad n G ++ X) H) (hD : WD ε (wM ε a ad n G ++ X)) (hS : WS ε H0 H locs) {index : Nat} (hlink : Cond.fieldLink own index RX5 (TX5 6).2.1 (TX5 6).2.2.1 ∈ WALL) {v : Int} (hdg : decode cc pc = .ok (.putfield index, 3))
    (kk : ∀ (H1 : Heap) (locs1 : List Loc), WP ε (wM ε a ad (va_up n 2 v) G ++ X) H1 → WD ε (wM ε a ad (va_up n 2 v) G ++ X) → WS ε H0 H1 locs1 → W p l e R s m args below meth c H1 locs1 cells slots Q (F0 m (pc + 3) ls rest)) : W p l e R s m args below meth c H locs cells slots Q (F0 m pc ls (.int (iv v) :: .ref a :: rest)) := by
  obtain ⟨hx, hb, -, ho, hts, -⟩ := hC
  refine va_put (own := own) (ref := RX5) (C := RX5) (T := TX5) (N := 20) (ci := 6) hx hb hts (fun w h => wt_1 w h) tyX5 tyX5_ok nmX5 ho hK hP hD hS 0 (fs := fM ad n) rfl rfl 6 (by decide) (hts _ hlink) (fun _ h => h) rfl (ty := .int) rfl rfl rfl (by show 6 < 20; decide) hdg (fun H1 locs1 h1 h2 h3 => ?_)
  exact kk H1 locs1 h1 h2 h3
theorem m_put3 (hC : CTX p s m args meth c cc mL ret own nm tb) (hK : WK ε s) (hP : WP ε (wM ε a ad n G ++ X) H) (hD : WD ε (wM ε a ad n G ++ X)) (hS : WS ε H0 H locs) {index : Nat} (hlink : Cond.fieldLink own index RX5 (TX5 15).2.1 (TX5 15).2.2.1 ∈ WALL) {v : Int} (hdg : decode cc pc = .ok (.putfield index, 3))
    (kk : ∀ (H1 : Heap) (locs1 : List Loc), WP ε (wM ε a ad (va_up n 3 v) G ++ X) H1 → WD ε (wM ε a ad (va_up n 3 v) G ++ X) → WS ε H0 H1 locs1 → W p l e R s m args below meth c H1 locs1 cells slots Q (F0 m (pc + 3) ls rest)) : W p l e R s m args below meth c H locs cells slots Q (F0 m pc ls (.int (iv v) :: .ref a :: rest)) := by
  obtain ⟨hx, hb, -, ho, hts, -⟩ := hC
  refine va_put (own := own) (ref := RX5) (C := RX5) (T := TX5) (N := 20) (ci := 6) hx hb hts (fun w h => wt_1 w h) tyX5 tyX5_ok nmX5 ho hK hP hD hS 0 (fs := fM ad n) rfl rfl 15 (by decide) (hts _ hlink) (fun _ h => h) rfl (ty := .int) rfl rfl rfl (by show 15 < 20; decide) hdg (fun H1 locs1 h1 h2 h3 => ?_)
  exact kk H1 locs1 h1 h2 h3
theorem m_put4 (hC : CTX p s m args meth c cc mL ret own nm tb) (hK : WK ε s) (hP : WP ε (wM ε a ad n G ++ X) H) (hD : WD ε (wM ε a ad n G ++ X)) (hS : WS ε H0 H locs) {index : Nat} (hlink : Cond.fieldLink own index RX5 (TX5 16).2.1 (TX5 16).2.2.1 ∈ WALL) {v : Int} (hdg : decode cc pc = .ok (.putfield index, 3))
    (kk : ∀ (H1 : Heap) (locs1 : List Loc), WP ε (wM ε a ad (va_up n 4 v) G ++ X) H1 → WD ε (wM ε a ad (va_up n 4 v) G ++ X) → WS ε H0 H1 locs1 → W p l e R s m args below meth c H1 locs1 cells slots Q (F0 m (pc + 3) ls rest)) : W p l e R s m args below meth c H locs cells slots Q (F0 m pc ls (.int (iv v) :: .ref a :: rest)) := by
  obtain ⟨hx, hb, -, ho, hts, -⟩ := hC
  refine va_put (own := own) (ref := RX5) (C := RX5) (T := TX5) (N := 20) (ci := 6) hx hb hts (fun w h => wt_1 w h) tyX5 tyX5_ok nmX5 ho hK hP hD hS 0 (fs := fM ad n) rfl rfl 16 (by decide) (hts _ hlink) (fun _ h => h) rfl (ty := .int) rfl rfl rfl (by show 16 < 20; decide) hdg (fun H1 locs1 h1 h2 h3 => ?_)
  exact kk H1 locs1 h1 h2 h3
theorem m_put5 (hC : CTX p s m args meth c cc mL ret own nm tb) (hK : WK ε s) (hP : WP ε (wM ε a ad n G ++ X) H) (hD : WD ε (wM ε a ad n G ++ X)) (hS : WS ε H0 H locs) {index : Nat} (hlink : Cond.fieldLink own index RX5 (TX5 19).2.1 (TX5 19).2.2.1 ∈ WALL) {v : Int} (hdg : decode cc pc = .ok (.putfield index, 3))
    (kk : ∀ (H1 : Heap) (locs1 : List Loc), WP ε (wM ε a ad (va_up n 5 v) G ++ X) H1 → WD ε (wM ε a ad (va_up n 5 v) G ++ X) → WS ε H0 H1 locs1 → W p l e R s m args below meth c H1 locs1 cells slots Q (F0 m (pc + 3) ls rest)) : W p l e R s m args below meth c H locs cells slots Q (F0 m pc ls (.int (iv v) :: .ref a :: rest)) := by
  obtain ⟨hx, hb, -, ho, hts, -⟩ := hC
  refine va_put (own := own) (ref := RX5) (C := RX5) (T := TX5) (N := 20) (ci := 6) hx hb hts (fun w h => wt_1 w h) tyX5 tyX5_ok nmX5 ho hK hP hD hS 0 (fs := fM ad n) rfl rfl 19 (by decide) (hts _ hlink) (fun _ h => h) rfl (ty := .int) rfl rfl rfl (by show 19 < 20; decide) hdg (fun H1 locs1 h1 h2 h3 => ?_)
  exact kk H1 locs1 h1 h2 h3
theorem m_ast0 (hC : CTX p s m args meth c cc mL ret own nm tb) (hK : WK ε s) (hP : WP ε (wM ε a ad n G ++ X) H) (hD : WD ε (wM ε a ad n G ++ X)) (hS : WS ε H0 H locs) {z v : Int} (hz : 0 ≤ z ∧ z < 6) (hdg : decode cc pc = .ok (.iastore, 1))
    (kk : ∀ (H1 : Heap) (locs1 : List Loc), WP ε (wM ε a ad n (va_up G 0 (va_up (G 0) z.toNat v)) ++ X) H1 → WD ε (wM ε a ad n (va_up G 0 (va_up (G 0) z.toNat v)) ++ X) → WS ε H0 H1 locs1 → W p l e R s m args below meth c H1 locs1 cells slots Q (F0 m (pc + 1) ls rest)) : W p l e R s m args below meth c H locs cells slots Q (F0 m pc ls (.int (iv v) :: .int (iv z) :: .ref (ad 0) :: rest)) := by
  refine va_iast hC.1 hC.2.1 hK hP hD hS 1 0 (f := fun j => iv (G 0 j)) rfl rfl (iv_in hz.1 hz.2 (by decide)) hdg (fun H1 locs1 h1 h2 h3 => ?_)
  rw [upd_iv ⟨by omega, by omega⟩] at h1 h2
  exact kk H1 locs1 h1 h2 h3
theorem m_ast1 (hC : CTX p s m args meth c cc mL ret own nm tb) (hK : WK ε s) (hP : WP ε (wM ε a ad n G ++ X) H) (hD : WD ε (wM ε a ad n G ++ X)) (hS : WS ε H0 H locs) {z v : Int} (hz : 0 ≤ z ∧ z < 120) (hdg : decode cc pc = .ok (.iastore, 1))
    (kk : ∀ (H1 : Heap) (locs1 : List Loc), WP ε (wM ε a ad n (va_up G 1 (va_up (G 1) z.toNat v)) ++ X) H1 → WD ε (wM ε a ad n (va_up G 1 (va_up (G 1) z.toNat v)) ++ X) → WS ε H0 H1 locs1 → W p l e R s m args below meth c H1 locs1 cells slots Q (F0 m (pc + 1) ls rest)) : W p l e R s m args below meth c H locs cells slots Q (F0 m pc ls (.int (iv v) :: .int (iv z) :: .ref (ad 1) :: rest)) := by
  refine va_iast hC.1 hC.2.1 hK hP hD hS 2 0 (f := fun j => iv (G 1 j)) rfl rfl (iv_in hz.1 hz.2 (by decide)) hdg (fun H1 locs1 h1 h2 h3 => ?_)
  rw [upd_iv ⟨by omega, by omega⟩] at h1 h2
  exact kk H1 locs1 h1 h2 h3
theorem m_ast2 (hC : CTX p s m args meth c cc mL ret own nm tb) (hK : WK ε s) (hP : WP ε (wM ε a ad n G ++ X) H) (hD : WD ε (wM ε a ad n G ++ X)) (hS : WS ε H0 H locs) {z v : Int} (hz : 0 ≤ z ∧ z < 20) (hdg : decode cc pc = .ok (.iastore, 1))
    (kk : ∀ (H1 : Heap) (locs1 : List Loc), WP ε (wM ε a ad n (va_up G 2 (va_up (G 2) z.toNat v)) ++ X) H1 → WD ε (wM ε a ad n (va_up G 2 (va_up (G 2) z.toNat v)) ++ X) → WS ε H0 H1 locs1 → W p l e R s m args below meth c H1 locs1 cells slots Q (F0 m (pc + 1) ls rest)) : W p l e R s m args below meth c H locs cells slots Q (F0 m pc ls (.int (iv v) :: .int (iv z) :: .ref (ad 2) :: rest)) := by
  refine va_iast hC.1 hC.2.1 hK hP hD hS 3 0 (f := fun j => iv (G 2 j)) rfl rfl (iv_in hz.1 hz.2 (by decide)) hdg (fun H1 locs1 h1 h2 h3 => ?_)
  rw [upd_iv ⟨by omega, by omega⟩] at h1 h2
  exact kk H1 locs1 h1 h2 h3
theorem m_ast3 (hC : CTX p s m args meth c cc mL ret own nm tb) (hK : WK ε s) (hP : WP ε (wM ε a ad n G ++ X) H) (hD : WD ε (wM ε a ad n G ++ X)) (hS : WS ε H0 H locs) {z v : Int} (hz : 0 ≤ z ∧ z < 20) (hdg : decode cc pc = .ok (.iastore, 1))
    (kk : ∀ (H1 : Heap) (locs1 : List Loc), WP ε (wM ε a ad n (va_up G 3 (va_up (G 3) z.toNat v)) ++ X) H1 → WD ε (wM ε a ad n (va_up G 3 (va_up (G 3) z.toNat v)) ++ X) → WS ε H0 H1 locs1 → W p l e R s m args below meth c H1 locs1 cells slots Q (F0 m (pc + 1) ls rest)) : W p l e R s m args below meth c H locs cells slots Q (F0 m pc ls (.int (iv v) :: .int (iv z) :: .ref (ad 3) :: rest)) := by
  refine va_iast hC.1 hC.2.1 hK hP hD hS 4 0 (f := fun j => iv (G 3 j)) rfl rfl (iv_in hz.1 hz.2 (by decide)) hdg (fun H1 locs1 h1 h2 h3 => ?_)
  rw [upd_iv ⟨by omega, by omega⟩] at h1 h2
  exact kk H1 locs1 h1 h2 h3
theorem m_ast4 (hC : CTX p s m args meth c cc mL ret own nm tb) (hK : WK ε s) (hP : WP ε (wM ε a ad n G ++ X) H) (hD : WD ε (wM ε a ad n G ++ X)) (hS : WS ε H0 H locs) {z v : Int} (hz : 0 ≤ z ∧ z < 12) (hdg : decode cc pc = .ok (.iastore, 1))
    (kk : ∀ (H1 : Heap) (locs1 : List Loc), WP ε (wM ε a ad n (va_up G 4 (va_up (G 4) z.toNat v)) ++ X) H1 → WD ε (wM ε a ad n (va_up G 4 (va_up (G 4) z.toNat v)) ++ X) → WS ε H0 H1 locs1 → W p l e R s m args below meth c H1 locs1 cells slots Q (F0 m (pc + 1) ls rest)) : W p l e R s m args below meth c H locs cells slots Q (F0 m pc ls (.int (iv v) :: .int (iv z) :: .ref (ad 4) :: rest)) := by
  refine va_iast hC.1 hC.2.1 hK hP hD hS 5 0 (f := fun j => iv (G 4 j)) rfl rfl (iv_in hz.1 hz.2 (by decide)) hdg (fun H1 locs1 h1 h2 h3 => ?_)
  rw [upd_iv ⟨by omega, by omega⟩] at h1 h2
  exact kk H1 locs1 h1 h2 h3
theorem m_ast5 (hC : CTX p s m args meth c cc mL ret own nm tb) (hK : WK ε s) (hP : WP ε (wM ε a ad n G ++ X) H) (hD : WD ε (wM ε a ad n G ++ X)) (hS : WS ε H0 H locs) {z v : Int} (hz : 0 ≤ z ∧ z < 12) (hdg : decode cc pc = .ok (.iastore, 1))
    (kk : ∀ (H1 : Heap) (locs1 : List Loc), WP ε (wM ε a ad n (va_up G 5 (va_up (G 5) z.toNat v)) ++ X) H1 → WD ε (wM ε a ad n (va_up G 5 (va_up (G 5) z.toNat v)) ++ X) → WS ε H0 H1 locs1 → W p l e R s m args below meth c H1 locs1 cells slots Q (F0 m (pc + 1) ls rest)) : W p l e R s m args below meth c H locs cells slots Q (F0 m pc ls (.int (iv v) :: .int (iv z) :: .ref (ad 5) :: rest)) := by
  refine va_iast hC.1 hC.2.1 hK hP hD hS 6 0 (f := fun j => iv (G 5 j)) rfl rfl (iv_in hz.1 hz.2 (by decide)) hdg (fun H1 locs1 h1 h2 h3 => ?_)
  rw [upd_iv ⟨by omega, by omega⟩] at h1 h2
  exact kk H1 locs1 h1 h2 h3
theorem m_ast6 (hC : CTX p s m args meth c cc mL ret own nm tb) (hK : WK ε s) (hP : WP ε (wM ε a ad n G ++ X) H) (hD : WD ε (wM ε a ad n G ++ X)) (hS : WS ε H0 H locs) {z v : Int} (hz : 0 ≤ z ∧ z < 12) (hdg : decode cc pc = .ok (.iastore, 1))
    (kk : ∀ (H1 : Heap) (locs1 : List Loc), WP ε (wM ε a ad n (va_up G 6 (va_up (G 6) z.toNat v)) ++ X) H1 → WD ε (wM ε a ad n (va_up G 6 (va_up (G 6) z.toNat v)) ++ X) → WS ε H0 H1 locs1 → W p l e R s m args below meth c H1 locs1 cells slots Q (F0 m (pc + 1) ls rest)) : W p l e R s m args below meth c H locs cells slots Q (F0 m pc ls (.int (iv v) :: .int (iv z) :: .ref (ad 6) :: rest)) := by
  refine va_iast hC.1 hC.2.1 hK hP hD hS 7 0 (f := fun j => iv (G 6 j)) rfl rfl (iv_in hz.1 hz.2 (by decide)) hdg (fun H1 locs1 h1 h2 h3 => ?_)
  rw [upd_iv ⟨by omega, by omega⟩] at h1 h2
  exact kk H1 locs1 h1 h2 h3
theorem m_ast7 (hC : CTX p s m args meth c cc mL ret own nm tb) (hK : WK ε s) (hP : WP ε (wM ε a ad n G ++ X) H) (hD : WD ε (wM ε a ad n G ++ X)) (hS : WS ε H0 H locs) {z v : Int} (hz : 0 ≤ z ∧ z < 12) (hdg : decode cc pc = .ok (.iastore, 1))
    (kk : ∀ (H1 : Heap) (locs1 : List Loc), WP ε (wM ε a ad n (va_up G 7 (va_up (G 7) z.toNat v)) ++ X) H1 → WD ε (wM ε a ad n (va_up G 7 (va_up (G 7) z.toNat v)) ++ X) → WS ε H0 H1 locs1 → W p l e R s m args below meth c H1 locs1 cells slots Q (F0 m (pc + 1) ls rest)) : W p l e R s m args below meth c H locs cells slots Q (F0 m pc ls (.int (iv v) :: .int (iv z) :: .ref (ad 7) :: rest)) := by
  refine va_iast hC.1 hC.2.1 hK hP hD hS 8 0 (f := fun j => iv (G 7 j)) rfl rfl (iv_in hz.1 hz.2 (by decide)) hdg (fun H1 locs1 h1 h2 h3 => ?_)
  rw [upd_iv ⟨by omega, by omega⟩] at h1 h2
  exact kk H1 locs1 h1 h2 h3
theorem m_ast8 (hC : CTX p s m args meth c cc mL ret own nm tb) (hK : WK ε s) (hP : WP ε (wM ε a ad n G ++ X) H) (hD : WD ε (wM ε a ad n G ++ X)) (hS : WS ε H0 H locs) {z v : Int} (hz : 0 ≤ z ∧ z < 12) (hdg : decode cc pc = .ok (.iastore, 1))
    (kk : ∀ (H1 : Heap) (locs1 : List Loc), WP ε (wM ε a ad n (va_up G 8 (va_up (G 8) z.toNat v)) ++ X) H1 → WD ε (wM ε a ad n (va_up G 8 (va_up (G 8) z.toNat v)) ++ X) → WS ε H0 H1 locs1 → W p l e R s m args below meth c H1 locs1 cells slots Q (F0 m (pc + 1) ls rest)) : W p l e R s m args below meth c H locs cells slots Q (F0 m pc ls (.int (iv v) :: .int (iv z) :: .ref (ad 8) :: rest)) := by
  refine va_iast hC.1 hC.2.1 hK hP hD hS 9 0 (f := fun j => iv (G 8 j)) rfl rfl (iv_in hz.1 hz.2 (by decide)) hdg (fun H1 locs1 h1 h2 h3 => ?_)
  rw [upd_iv ⟨by omega, by omega⟩] at h1 h2
  exact kk H1 locs1 h1 h2 h3
theorem m_ast9 (hC : CTX p s m args meth c cc mL ret own nm tb) (hK : WK ε s) (hP : WP ε (wM ε a ad n G ++ X) H) (hD : WD ε (wM ε a ad n G ++ X)) (hS : WS ε H0 H locs) {z v : Int} (hz : 0 ≤ z ∧ z < 12) (hdg : decode cc pc = .ok (.iastore, 1))
    (kk : ∀ (H1 : Heap) (locs1 : List Loc), WP ε (wM ε a ad n (va_up G 9 (va_up (G 9) z.toNat v)) ++ X) H1 → WD ε (wM ε a ad n (va_up G 9 (va_up (G 9) z.toNat v)) ++ X) → WS ε H0 H1 locs1 → W p l e R s m args below meth c H1 locs1 cells slots Q (F0 m (pc + 1) ls rest)) : W p l e R s m args below meth c H locs cells slots Q (F0 m pc ls (.int (iv v) :: .int (iv z) :: .ref (ad 9) :: rest)) := by
  refine va_iast hC.1 hC.2.1 hK hP hD hS 10 0 (f := fun j => iv (G 9 j)) rfl rfl (iv_in hz.1 hz.2 (by decide)) hdg (fun H1 locs1 h1 h2 h3 => ?_)
  rw [upd_iv ⟨by omega, by omega⟩] at h1 h2
  exact kk H1 locs1 h1 h2 h3
theorem m_ast10 (hC : CTX p s m args meth c cc mL ret own nm tb) (hK : WK ε s) (hP : WP ε (wM ε a ad n G ++ X) H) (hD : WD ε (wM ε a ad n G ++ X)) (hS : WS ε H0 H locs) {z v : Int} (hz : 0 ≤ z ∧ z < 12) (hv : v = 0 ∨ v = 1) (hdg : decode cc pc = .ok (.bastore, 1))
    (kk : ∀ (H1 : Heap) (locs1 : List Loc), WP ε (wM ε a ad n (va_up G 10 (va_up (G 10) z.toNat v)) ++ X) H1 → WD ε (wM ε a ad n (va_up G 10 (va_up (G 10) z.toNat v)) ++ X) → WS ε H0 H1 locs1 → W p l e R s m args below meth c H1 locs1 cells slots Q (F0 m (pc + 1) ls rest)) : W p l e R s m args below meth c H locs cells slots Q (F0 m pc ls (.int (iv v) :: .int (iv z) :: .ref (ad 10) :: rest)) := by
  refine va_zast hC.1 hC.2.1 hK hP hD hS 11 1 (f := fun j => iv (G 10 j)) rfl rfl (iv_in hz.1 hz.2 (by decide)) hdg (fun H1 locs1 h1 h2 h3 => ?_)
  rw [show vp_nar .boolean (iv v) = iv v by rcases hv with rfl | rfl <;> decide, upd_iv ⟨by omega, by omega⟩] at h1 h2
  exact kk H1 locs1 h1 h2 h3
theorem m_ast11 (hC : CTX p s m args meth c cc mL ret own nm tb) (hK : WK ε s) (hP : WP ε (wM ε a ad n G ++ X) H) (hD : WD ε (wM ε a ad n G ++ X)) (hS : WS ε H0 H locs) {z v : Int} (hz : 0 ≤ z ∧ z < 4200) (hdg : decode cc pc = .ok (.iastore, 1))
    (kk : ∀ (H1 : Heap) (locs1 : List Loc), WP ε (wM ε a ad n (va_up G 11 (va_up (G 11) z.toNat v)) ++ X) H1 → WD ε (wM ε a ad n (va_up G 11 (va_up (G 11) z.toNat v)) ++ X) → WS ε H0 H1 locs1 → W p l e R s m args below meth c H1 locs1 cells slots Q (F0 m (pc + 1) ls rest)) : W p l e R s m args below meth c H locs cells slots Q (F0 m pc ls (.int (iv v) :: .int (iv z) :: .ref (ad 11) :: rest)) := by
  refine va_iast hC.1 hC.2.1 hK hP hD hS 12 0 (f := fun j => iv (G 11 j)) rfl rfl (iv_in hz.1 hz.2 (by decide)) hdg (fun H1 locs1 h1 h2 h3 => ?_)
  rw [upd_iv ⟨by omega, by omega⟩] at h1 h2
  exact kk H1 locs1 h1 h2 h3
theorem m_ast12 (hC : CTX p s m args meth c cc mL ret own nm tb) (hK : WK ε s) (hP : WP ε (wM ε a ad n G ++ X) H) (hD : WD ε (wM ε a ad n G ++ X)) (hS : WS ε H0 H locs) {z v : Int} (hz : 0 ≤ z ∧ z < 10) (hdg : decode cc pc = .ok (.iastore, 1))
    (kk : ∀ (H1 : Heap) (locs1 : List Loc), WP ε (wM ε a ad n (va_up G 12 (va_up (G 12) z.toNat v)) ++ X) H1 → WD ε (wM ε a ad n (va_up G 12 (va_up (G 12) z.toNat v)) ++ X) → WS ε H0 H1 locs1 → W p l e R s m args below meth c H1 locs1 cells slots Q (F0 m (pc + 1) ls rest)) : W p l e R s m args below meth c H locs cells slots Q (F0 m pc ls (.int (iv v) :: .int (iv z) :: .ref (ad 12) :: rest)) := by
  refine va_iast hC.1 hC.2.1 hK hP hD hS 13 0 (f := fun j => iv (G 12 j)) rfl rfl (iv_in hz.1 hz.2 (by decide)) hdg (fun H1 locs1 h1 h2 h3 => ?_)
  rw [upd_iv ⟨by omega, by omega⟩] at h1 h2
  exact kk H1 locs1 h1 h2 h3
theorem m_ast13 (hC : CTX p s m args meth c cc mL ret own nm tb) (hK : WK ε s) (hP : WP ε (wM ε a ad n G ++ X) H) (hD : WD ε (wM ε a ad n G ++ X)) (hS : WS ε H0 H locs) {z v : Int} (hz : 0 ≤ z ∧ z < 120) (hdg : decode cc pc = .ok (.iastore, 1))
    (kk : ∀ (H1 : Heap) (locs1 : List Loc), WP ε (wM ε a ad n (va_up G 13 (va_up (G 13) z.toNat v)) ++ X) H1 → WD ε (wM ε a ad n (va_up G 13 (va_up (G 13) z.toNat v)) ++ X) → WS ε H0 H1 locs1 → W p l e R s m args below meth c H1 locs1 cells slots Q (F0 m (pc + 1) ls rest)) : W p l e R s m args below meth c H locs cells slots Q (F0 m pc ls (.int (iv v) :: .int (iv z) :: .ref (ad 13) :: rest)) := by
  refine va_iast hC.1 hC.2.1 hK hP hD hS 14 0 (f := fun j => iv (G 13 j)) rfl rfl (iv_in hz.1 hz.2 (by decide)) hdg (fun H1 locs1 h1 h2 h3 => ?_)
  rw [upd_iv ⟨by omega, by omega⟩] at h1 h2
  exact kk H1 locs1 h1 h2 h3
end MR
end
section
/-! rhythms: d k is the k-th phase, c of them, per their sum -/
def litF (d : Int → Int) : Nat → Int → Int → Bool
  | 0, _, _ => false
  | f + 1, k, r => if r < d k then decide (k % 2 = 0) else litF d f (k + 1) (r - d k)
def sf (d : Int → Int) : Nat → Int → Int
  | 0, _ => 0
  | f + 1, k => d k + sf d f (k + 1)
abbrev ph (G : Nat → Nat → Int) (q : Int) : Int → Int := fun k => G 1 (6 * q + k).toNat
def PV (d : Int → Int) (c : Nat) (per : Int) : Prop := (c = 2 ∨ c = 4 ∨ c = 6) ∧ (∀ k : Int, 0 ≤ k → k < c → 1 ≤ d k ∧ d k ≤ 9) ∧ per = sf d c 0
def lt (d : Int → Int) (c : Nat) (per s : Int) : Bool := litF d c 0 (s % per)
theorem sf_bd {d : Int → Int} {c : Nat} (h : ∀ k : Int, 0 ≤ k → k < c → 1 ≤ d k ∧ d k ≤ 9) : ∀ (f : Nat) (k : Int), 0 ≤ k → k + f ≤ c → (f : Int) ≤ sf d f k ∧ sf d f k ≤ 9 * f := by
  intro f
  induction f with
  | zero => intro k h1 h2; simp [sf]
  | succ f ih =>
    intro k h1 h2
    have h3 := h k h1 (by omega)
    have h4 := ih (k + 1) (by omega) (by omega)
    show _ ≤ d k + sf d f (k + 1) ∧ d k + sf d f (k + 1) ≤ _
    omega
theorem PV.per {d : Int → Int} {c : Nat} {per : Int} (h : PV d c per) : 2 ≤ per ∧ per ≤ 54 := by
  obtain ⟨h1, h2, h3⟩ := h
  have h4 := sf_bd h2 c 0 (by omega) (by omega)
  rw [h3]
  omega
theorem sf_pos {d : Int → Int} {f : Nat} {k r : Int} (h0 : 0 ≤ r) (h : r < sf d f k) : ∃ g, f = g + 1 := by
  cases f with
  | zero => exact absurd h (by simp [sf]; omega)
  | succ g => exact ⟨g, rfl⟩
noncomputable def tb (P : Prop) : Bool := @decide P (Classical.propDecidable P)
theorem tb_iff {P : Prop} : tb P = true ↔ P := by unfold tb; exact @decide_eq_true_iff P (Classical.propDecidable P)
theorem tb_t {P : Prop} (h : P) : tb P = true := tb_iff.mpr h
theorem tb_f {P : Prop} (h : ¬ P) : tb P = false := by
  cases hb : tb P
  · rfl
  · exact absurd (tb_iff.mp hb) h
theorem tb_of {P : Prop} {b : Bool} (h : b = true ↔ P) : b = tb P := by
  cases b
  · exact (tb_f (fun q => by have := h.mpr q; cases this)).symm
  · exact (tb_t (h.mp rfl)).symm
theorem bz_inj {a b : Bool} (h : bz a = bz b) : a = b := by
  cases a <;> cases b <;> simp_all [bz]
abbrev cq (G : Nat → Nat → Int) (q : Int) : Nat := (G 2 q.toNat).toNat
/-- the rhythm of the pattern q, second by second -/
def LQ (G : Nat → Nat → Int) (q : Int) (t : Int) : Bool := lt (ph G q) (cq G q) (G 3 q.toNat) t
def PQ (G : Nat → Nat → Int) (q : Int) : Prop := PV (ph G q) (cq G q) (G 3 q.toNat)
theorem PQ.per {G : Nat → Nat → Int} {q : Int} (h : PQ G q) : 2 ≤ G 3 q.toNat ∧ G 3 q.toNat ≤ 54 := PV.per h
def ALLb (P : Int → Prop) (t : Int) : Prop := ∀ u : Int, 0 ≤ u → u < t → P u
def EXb (P : Int → Prop) (t : Int) : Prop := ∃ u : Int, 0 ≤ u ∧ u < t ∧ P u
theorem ALLb.zero {P : Int → Prop} {t : Int} (h : t ≤ 0) : ALLb P t := fun u h1 h2 => by omega
theorem EXb.zero {P : Int → Prop} {t : Int} (h : t ≤ 0) : ¬ EXb P t := fun ⟨u, h1, h2, _⟩ => by omega
theorem ALLb.succ {P : Int → Prop} {t : Int} (h0 : 0 ≤ t) : ALLb P (t + 1) ↔ ALLb P t ∧ P t := by
  refine ⟨fun q => ⟨fun u hu hu2 => q u hu (by omega), q t h0 (by omega)⟩, fun q u hu hu2 => ?_⟩
  by_cases e : u = t
  · rw [e]; exact q.2
  · exact q.1 u hu (by omega)
theorem EXb.succ {P : Int → Prop} {t : Int} (h0 : 0 ≤ t) : EXb P (t + 1) ↔ EXb P t ∨ P t := by
  constructor
  · rintro ⟨u, h1, h2, h3⟩
    by_cases e : u = t
    · exact Or.inr (e ▸ h3)
    · exact Or.inl ⟨u, h1, by omega, h3⟩
  · rintro (⟨u, h1, h2, h3⟩ | h1)
    · exact ⟨u, h1, by omega, h3⟩
    · exact ⟨t, h0, by omega, h1⟩
theorem ALLb.eq {P : Int → Prop} {t t' : Int} (h : t = t') (q : ALLb P t) : ALLb P t' := h ▸ q
def okR (f : Int → Bool) (per d : Int) : Prop := per % d = 0 ∧ ALLb (fun u => f u = f (u + d)) per
noncomputable def retF (f : Int → Bool) (per : Int) : Nat → Int → Int
  | 0, _ => per
  | k + 1, d => if tb (okR f per d) = true then d else retF f per k (d + 1)
/-- the least number of seconds behind which a rhythm is as it was -/
noncomputable def retn (f : Int → Bool) (per : Int) : Int := retF f per (per - 1).toNat 1
theorem retF_bd (f : Int → Bool) (per : Int) : ∀ (k : Nat) (d : Int), 1 ≤ d → d + k = per → 1 ≤ retF f per k d ∧ retF f per k d ≤ per := by
  intro k
  induction k with
  | zero => intro d h1 h2; show 1 ≤ per ∧ per ≤ per; omega
  | succ k ih =>
    intro d h1 h2
    unfold retF
    split
    · omega
    · exact ih (d + 1) (by omega) (by omega)
theorem retn_bd {f : Int → Bool} {per : Int} (h : 1 ≤ per) : 1 ≤ retn f per ∧ retn f per ≤ per := retF_bd f per _ 1 (by omega) (by omega)
theorem al_t {P : Int → Prop} {A : Prop} {t : Int} {is : Bool} (h0 : 0 ≤ t) (h : is = true ↔ (A ∧ ALLb P t)) (hi : is = true) (hp : P t) : (true = true ↔ (A ∧ ALLb P (t + 1))) :=
  ⟨fun _ => ⟨(h.mp hi).1, (ALLb.succ h0).mpr ⟨(h.mp hi).2, hp⟩⟩, fun _ => rfl⟩
theorem al_f {P : Int → Prop} {A : Prop} {t : Int} (h0 : 0 ≤ t) (hp : ¬ P t) : (false = true ↔ (A ∧ ALLb P (t + 1))) :=
  ⟨fun q => (by cases q), fun q => absurd ((ALLb.succ h0).mp q.2).2 hp⟩
theorem al_and {P : Int → Prop} {t : Int} {is b : Bool} (h0 : 0 ≤ t) (h : is = true ↔ ALLb P t) (hb : b = true ↔ P t) : ((is && b) = true ↔ ALLb P (t + 1)) := by
  rw [Bool.and_eq_true, h, hb, ALLb.succ h0]
theorem ex_or {P : Int → Prop} {t : Int} {is b : Bool} (h0 : 0 ≤ t) (h : is = true ↔ EXb P t) (hb : b = true ↔ P t) : ((is || b) = true ↔ EXb P (t + 1)) := by
  rw [Bool.or_eq_true, h, hb, EXb.succ h0]
theorem bz_and (a b : Bool) : iv (bz a) &&& iv (bz b) = iv (bz (a && b)) := by cases a <;> cases b <;> decide
theorem bz_or (a b : Bool) : iv (bz a) ||| iv (bz b) = iv (bz (a || b)) := by cases a <;> cases b <;> decide
/-- two rhythms are alike, as the reference asks it -/
def AK (f g : Int → Bool) (pf pg : Int) : Prop := retn f pf = retn g pg ∧ EXb (fun t => ALLb (fun u => f (u + t) = g u) (retn f pf)) (retn f pf)
end
section
abbrev rm_c_m_isIn : Room := { frames := 0, cells := 0, slots := 0, locals := 0 }
set_option maxRecDepth 100000 in
set_option maxHeartbeats 4000000 in
theorem c_m_isIn (l : Launch) (ε : EV) (ws : va_W) (a b c : Int) (ha : rg a) (hb9 : rg b) (hc9 : rg c) : CT l yX5_isIn cX5_isIn 3 (some .boolean) rm_c_m_isIn ε [.int (iv a), .int (iv b), .int (iv c)] (ws) (fun v w => v = some (.int (iv (bz (decide (b ≤ a ∧ a ≤ c))))) ∧ w = ws) NX := by
  refine CT.intro (by decide +kernel) (Nat.le_of_ble_eq_true rfl) ?_
  intro p9 e9 s9 m9 a9 bl9 me9 c9 ls Q9 hC hE hP hD hl hQ
  have hx := hC.1
  have hb := hC.2.1
  have hK := hE.K
  have hS : WS ε s9.heap s9.heap [] := va_S.rf
  have hl : lv_has ls 3 [(0, .int (iv a)), (1, .int (iv b)), (2, .int (iv c))] := hl
  obtain ⟨H, hH⟩ : ∃ H, H = s9.heap := ⟨_, rfl⟩
  obtain ⟨locs, hlo⟩ : ∃ z : List Loc, z = [] := ⟨_, rfl⟩
  rw [← hH] at hP ⊢
  have hS : WS ε s9.heap H locs := by rw [hH, hlo]; exact hS
  rw [← hlo]
  clear hH hlo
  refine lv_iload_n (pc := 0) hx hb dX5_isIn_0 rfl (lv_at hl 0 rfl) ?_
  refine lv_iload_n (pc := 1) hx hb dX5_isIn_1 rfl (lv_at hl 1 rfl) ?_
  refine r_icmp_lt (pc := 2) (a := a) (b := b) hx hb dX5_isIn_2 (tgt := 14) (by decide) ⟨by omega, by omega⟩ ⟨by omega, by omega⟩ (fun c_2 => ?_) (fun c_2 => ?_)
  · have c_2_ := c_2
    refine lv_iconst (pc := 14) (v := iv 0) hx hb dX5_isIn_14 rfl ?_
    refine c_zret (pc := 15) hC hQ hP hD hS (by decide) (by decide) dX5_isIn_15 nz_0 ?_
    exact ⟨congrArg (fun z => some (Value.int z)) (bz_0 (decide_eq_false (by omega))), rfl⟩
  · have c_2_ := c_2
    refine lv_iload_n (pc := 5) hx hb dX5_isIn_5 rfl (lv_at hl 0 rfl) ?_
    refine lv_iload_n (pc := 6) hx hb dX5_isIn_6 rfl (lv_at hl 2 rfl) ?_
    refine r_icmp_gt (pc := 7) (a := a) (b := c) hx hb dX5_isIn_7 (tgt := 14) (by decide) ⟨by omega, by omega⟩ ⟨by omega, by omega⟩ (fun c_7 => ?_) (fun c_7 => ?_)
    · have c_7_ := c_7
      refine lv_iconst (pc := 14) (v := iv 0) hx hb dX5_isIn_14 rfl ?_
      refine c_zret (pc := 15) hC hQ hP hD hS (by decide) (by decide) dX5_isIn_15 nz_0 ?_
      exact ⟨congrArg (fun z => some (Value.int z)) (bz_0 (decide_eq_false (by omega))), rfl⟩
    · have c_7_ := c_7
      refine lv_iconst (pc := 10) (v := iv 1) hx hb dX5_isIn_10 rfl ?_
      refine lv_goto (pc := 11) (tgt := 15) hx hb dX5_isIn_11 (by decide) ?_
      refine c_zret (pc := 15) hC hQ hP hD hS (by decide) (by decide) dX5_isIn_15 nz_1 ?_
      exact ⟨congrArg (fun z => some (Value.int z)) (bz_1 (decide_eq_true (by omega))), rfl⟩

abbrev rm_c_m_isPattern : Room := { frames := 1, cells := 0, slots := 0, locals := 22 }
set_option maxRecDepth 100000 in
set_option maxHeartbeats 4000000 in
theorem c_m_isPattern (l : Launch) (ε : EV) (m0 : Nat) (ad : Nat → Nat) (n : Nat → Int) (G : Nat → Nat → Int) (R : va_W) (a : Int) (ha : rg a) (hn : 0 ≤ n 1 ∧ n 1 ≤ 100) : CT l yX5_isPattern cX5_isPattern 2 (some .boolean) rm_c_m_isPattern ε [.ref m0, .int (iv a)] (wM ε m0 ad n G ++ R) (fun v w => v = some (.int (iv (bz (decide (0 ≤ a ∧ a < n 1))))) ∧ w = wM ε m0 ad n G ++ R) NX := by
  refine CT.intro (by decide +kernel) (Nat.le_of_ble_eq_true rfl) ?_
  intro p9 e9 s9 m9 a9 bl9 me9 c9 ls Q9 hC hE hP hD hl hQ
  have hx := hC.1
  have hb := hC.2.1
  have hK := hE.K
  have hS : WS ε s9.heap s9.heap [] := va_S.rf
  have hl : lv_has ls 2 [(0, .ref m0), (1, .int (iv a))] := hl
  obtain ⟨H, hH⟩ : ∃ H, H = s9.heap := ⟨_, rfl⟩
  obtain ⟨locs, hlo⟩ : ∃ z : List Loc, z = [] := ⟨_, rfl⟩
  rw [← hH] at hP ⊢
  have hS : WS ε s9.heap H locs := by rw [hH, hlo]; exact hS
  rw [← hlo]
  clear hH hlo
  refine lv_iload_n (pc := 0) hx hb dX5_isPattern_0 rfl (lv_at hl 1 rfl) ?_
  refine lv_iconst (pc := 1) (v := iv 0) hx hb dX5_isPattern_1 rfl ?_
  refine lv_aload_n (pc := 2) hx hb dX5_isPattern_2 rfl (lv_at hl 0 rfl) ?_
  refine r_get (pc := 3) hC hK hP wM_o (hc := rfl) (fun w h => wt_1 w h) 2 (by decide) m_7_6 (fun _ h => h) (v := .int (iv (n 1))) rfl dX5_isPattern_3 ?_
  refine lv_iconst (pc := 6) (v := iv 1) hx hb dX5_isPattern_6 rfl ?_
  refine r_isub (pc := 7) (a := n 1) (b := 1) hx hb dX5_isPattern_7 ?_
  refine c_callS (pc := 8) (y := yX5_isIn) (As := [.int (iv a), .int (iv 0), .int (iv ((n 1) - 1))]) (rest := []) hC hE hP hD hS hl.1 (c_m_isIn l ε (wM ε m0 ad n G ++ R) (a) (0) ((n 1) - 1) ⟨by omega, by omega⟩ ⟨by omega, by omega⟩ ⟨by omega, by omega⟩) m_3_5 m_3_6 m_0_5 m_3_7 hd_yX5_isIn rfl ⟨⟨by decide, by decide⟩, by decide, by decide⟩ (Nat.le_of_ble_eq_true rfl) rfl dX5_isPattern_8 kxN (fun v ws1 H locs hq hP hD hS => ?_)
  rw [hq.2] at hP hD
  rw [hq.1]
  dsimp only [Option.toList, List.cons_append, List.nil_append]
  refine c_zret (pc := 11) hC hQ hP hD hS (by decide) (by decide) dX5_isPattern_11 (nz_b _) ?_
  exact ⟨congrArg (fun z => some (Value.int (iv (bz z)))) (decide_eq_decide.mpr (by omega)), rfl⟩

abbrev rm_c_m_isLamp : Room := { frames := 1, cells := 0, slots := 0, locals := 22 }
set_option maxRecDepth 100000 in
set_option maxHeartbeats 4000000 in
theorem c_m_isLamp (l : Launch) (ε : EV) (m0 : Nat) (ad : Nat → Nat) (n : Nat → Int) (G : Nat → Nat → Int) (R : va_W) (a : Int) (ha : rg a) (hn : 0 ≤ n 2 ∧ n 2 ≤ 100) : CT l yX5_isLamp cX5_isLamp 2 (some .boolean) rm_c_m_isLamp ε [.ref m0, .int (iv a)] (wM ε m0 ad n G ++ R) (fun v w => v = some (.int (iv (bz (decide (0 ≤ a ∧ a < n 2))))) ∧ w = wM ε m0 ad n G ++ R) NX := by
  refine CT.intro (by decide +kernel) (Nat.le_of_ble_eq_true rfl) ?_
  intro p9 e9 s9 m9 a9 bl9 me9 c9 ls Q9 hC hE hP hD hl hQ
  have hx := hC.1
  have hb := hC.2.1
  have hK := hE.K
  have hS : WS ε s9.heap s9.heap [] := va_S.rf
  have hl : lv_has ls 2 [(0, .ref m0), (1, .int (iv a))] := hl
  obtain ⟨H, hH⟩ : ∃ H, H = s9.heap := ⟨_, rfl⟩
  obtain ⟨locs, hlo⟩ : ∃ z : List Loc, z = [] := ⟨_, rfl⟩
  rw [← hH] at hP ⊢
  have hS : WS ε s9.heap H locs := by rw [hH, hlo]; exact hS
  rw [← hlo]
  clear hH hlo
  refine lv_iload_n (pc := 0) hx hb dX5_isLamp_0 rfl (lv_at hl 1 rfl) ?_
  refine lv_iconst (pc := 1) (v := iv 0) hx hb dX5_isLamp_1 rfl ?_
  refine lv_aload_n (pc := 2) hx hb dX5_isLamp_2 rfl (lv_at hl 0 rfl) ?_
  refine r_get (pc := 3) hC hK hP wM_o (hc := rfl) (fun w h => wt_1 w h) 6 (by decide) m_13_22 (fun _ h => h) (v := .int (iv (n 2))) rfl dX5_isLamp_3 ?_
  refine lv_iconst (pc := 6) (v := iv 1) hx hb dX5_isLamp_6 rfl ?_
  refine r_isub (pc := 7) (a := n 2) (b := 1) hx hb dX5_isLamp_7 ?_
  refine c_callS (pc := 8) (y := yX5_isIn) (As := [.int (iv a), .int (iv 0), .int (iv ((n 2) - 1))]) (rest := []) hC hE hP hD hS hl.1 (c_m_isIn l ε (wM ε m0 ad n G ++ R) (a) (0) ((n 2) - 1) ⟨by omega, by omega⟩ ⟨by omega, by omega⟩ ⟨by omega, by omega⟩) m_3_5 m_3_6 m_0_5 m_3_7 hd_yX5_isIn rfl ⟨⟨by decide, by decide⟩, by decide, by decide⟩ (Nat.le_of_ble_eq_true rfl) rfl dX5_isLamp_8 kxN (fun v ws1 H locs hq hP hD hS => ?_)
  rw [hq.2] at hP hD
  rw [hq.1]
  dsimp only [Option.toList, List.cons_append, List.nil_append]
  refine c_zret (pc := 11) hC hQ hP hD hS (by decide) (by decide) dX5_isLamp_11 (nz_b _) ?_
  exact ⟨congrArg (fun z => some (Value.int (iv (bz z)))) (decide_eq_decide.mpr (by omega)), rfl⟩

abbrev rm_c_m_isChart : Room := { frames := 1, cells := 0, slots := 0, locals := 22 }
set_option maxRecDepth 100000 in
set_option maxHeartbeats 4000000 in
theorem c_m_isChart (l : Launch) (ε : EV) (m0 : Nat) (ad : Nat → Nat) (n : Nat → Int) (G : Nat → Nat → Int) (R : va_W) (a : Int) (ha : rg a) (hn : 0 ≤ n 4 ∧ n 4 ≤ 100) : CT l yX5_isChart cX5_isChart 2 (some .boolean) rm_c_m_isChart ε [.ref m0, .int (iv a)] (wM ε m0 ad n G ++ R) (fun v w => v = some (.int (iv (bz (decide (0 ≤ a ∧ a < n 4))))) ∧ w = wM ε m0 ad n G ++ R) NX := by
  refine CT.intro (by decide +kernel) (Nat.le_of_ble_eq_true rfl) ?_
  intro p9 e9 s9 m9 a9 bl9 me9 c9 ls Q9 hC hE hP hD hl hQ
  have hx := hC.1
  have hb := hC.2.1
  have hK := hE.K
  have hS : WS ε s9.heap s9.heap [] := va_S.rf
  have hl : lv_has ls 2 [(0, .ref m0), (1, .int (iv a))] := hl
  obtain ⟨H, hH⟩ : ∃ H, H = s9.heap := ⟨_, rfl⟩
  obtain ⟨locs, hlo⟩ : ∃ z : List Loc, z = [] := ⟨_, rfl⟩
  rw [← hH] at hP ⊢
  have hS : WS ε s9.heap H locs := by rw [hH, hlo]; exact hS
  rw [← hlo]
  clear hH hlo
  refine lv_iload_n (pc := 0) hx hb dX5_isChart_0 rfl (lv_at hl 1 rfl) ?_
  refine lv_iconst (pc := 1) (v := iv 0) hx hb dX5_isChart_1 rfl ?_
  refine lv_aload_n (pc := 2) hx hb dX5_isChart_2 rfl (lv_at hl 0 rfl) ?_
  refine r_get (pc := 3) hC hK hP wM_o (hc := rfl) (fun w h => wt_1 w h) 16 (by decide) m_21_3 (fun _ h => h) (v := .int (iv (n 4))) rfl dX5_isChart_3 ?_
  refine lv_iconst (pc := 6) (v := iv 1) hx hb dX5_isChart_6 rfl ?_
  refine r_isub (pc := 7) (a := n 4) (b := 1) hx hb dX5_isChart_7 ?_
  refine c_callS (pc := 8) (y := yX5_isIn) (As := [.int (iv a), .int (iv 0), .int (iv ((n 4) - 1))]) (rest := []) hC hE hP hD hS hl.1 (c_m_isIn l ε (wM ε m0 ad n G ++ R) (a) (0) ((n 4) - 1) ⟨by omega, by omega⟩ ⟨by omega, by omega⟩ ⟨by omega, by omega⟩) m_3_5 m_3_6 m_0_5 m_3_7 hd_yX5_isIn rfl ⟨⟨by decide, by decide⟩, by decide, by decide⟩ (Nat.le_of_ble_eq_true rfl) rfl dX5_isChart_8 kxN (fun v ws1 H locs hq hP hD hS => ?_)
  rw [hq.2] at hP hD
  rw [hq.1]
  dsimp only [Option.toList, List.cons_append, List.nil_append]
  refine c_zret (pc := 11) hC hQ hP hD hS (by decide) (by decide) dX5_isChart_11 (nz_b _) ?_
  exact ⟨congrArg (fun z => some (Value.int (iv (bz z)))) (decide_eq_decide.mpr (by omega)), rfl⟩

abbrev rm_c_m_isPlace : Room := { frames := 1, cells := 0, slots := 0, locals := 22 }
set_option maxRecDepth 100000 in
set_option maxHeartbeats 4000000 in
theorem c_m_isPlace (l : Launch) (ε : EV) (ws : va_W) (a b : Int) (ha : rg a) (hb9 : rg b) : CT l yX5_isPlace cX5_isPlace 2 (some .boolean) rm_c_m_isPlace ε [.int (iv a), .int (iv b)] (ws) (fun v w => v = some (.int (iv (bz (decide ((0 ≤ a ∧ a ≤ 31) ∧ 0 ≤ b ∧ b ≤ 31))))) ∧ w = ws) NX := by
  refine CT.intro (by decide +kernel) (Nat.le_of_ble_eq_true rfl) ?_
  intro p9 e9 s9 m9 a9 bl9 me9 c9 ls Q9 hC hE hP hD hl hQ
  have hx := hC.1
  have hb := hC.2.1
  have hK := hE.K
  have hS : WS ε s9.heap s9.heap [] := va_S.rf
  have hl : lv_has ls 2 [(0, .int (iv a)), (1, .int (iv b))] := hl
  obtain ⟨H, hH⟩ : ∃ H, H = s9.heap := ⟨_, rfl⟩
  obtain ⟨locs, hlo⟩ : ∃ z : List Loc, z = [] := ⟨_, rfl⟩
  rw [← hH] at hP ⊢
  have hS : WS ε s9.heap H locs := by rw [hH, hlo]; exact hS
  rw [← hlo]
  clear hH hlo
  refine lv_iload_n (pc := 0) hx hb dX5_isPlace_0 rfl (lv_at hl 0 rfl) ?_
  refine lv_iconst (pc := 1) (v := iv 0) hx hb dX5_isPlace_1 rfl ?_
  refine lv_bipush (pc := 2) (v := iv 31) hx hb dX5_isPlace_2 (by decide) ?_
  refine c_callS (pc := 4) (y := yX5_isIn) (As := [.int (iv a), .int (iv 0), .int (iv 31)]) (rest := []) hC hE hP hD hS hl.1 (c_m_isIn l ε (ws) (a) (0) (31) ⟨by omega, by omega⟩ ⟨by omega, by omega⟩ ⟨by omega, by omega⟩) m_3_5 m_3_6 m_0_5 m_3_7 hd_yX5_isIn rfl ⟨⟨by decide, by decide⟩, by decide, by decide⟩ (Nat.le_of_ble_eq_true rfl) rfl dX5_isPlace_4 kxN (fun v ws1 H locs hq hP hD hS => ?_)
  rw [hq.2] at hP hD
  rw [hq.1]
  dsimp only [Option.toList, List.cons_append, List.nil_append]
  refine r_if_b0 (pc := 7) (b := decide (0 ≤ a ∧ a ≤ 31)) hx hb dX5_isPlace_7 (tgt := 24) (by decide)  (fun c_7 => ?_) (fun c_7 => ?_)
  · replace c_7 := of_decide_eq_false c_7
    refine lv_iconst (pc := 24) (v := iv 0) hx hb dX5_isPlace_24 rfl ?_
    refine c_zret (pc := 25) hC hQ hP hD hS (by decide) (by decide) dX5_isPlace_25 nz_0 ?_
    exact ⟨congrArg (fun z => some (Value.int z)) (bz_0 (decide_eq_false (by omega))), rfl⟩
  · replace c_7 := of_decide_eq_true c_7
    refine lv_iload_n (pc := 10) hx hb dX5_isPlace_10 rfl (lv_at hl 1 rfl) ?_
    refine lv_iconst (pc := 11) (v := iv 0) hx hb dX5_isPlace_11 rfl ?_
    refine lv_bipush (pc := 12) (v := iv 31) hx hb dX5_isPlace_12 (by decide) ?_
    refine c_callS (pc := 14) (y := yX5_isIn) (As := [.int (iv b), .int (iv 0), .int (iv 31)]) (rest := []) hC hE hP hD hS hl.1 (c_m_isIn l ε (ws) (b) (0) (31) ⟨by omega, by omega⟩ ⟨by omega, by omega⟩ ⟨by omega, by omega⟩) m_3_5 m_3_6 m_0_5 m_3_7 hd_yX5_isIn rfl ⟨⟨by decide, by decide⟩, by decide, by decide⟩ (Nat.le_of_ble_eq_true rfl) rfl dX5_isPlace_14 kxN (fun v ws1 H locs hq hP hD hS => ?_)
    rw [hq.2] at hP hD
    rw [hq.1]
    dsimp only [Option.toList, List.cons_append, List.nil_append]
    refine r_if_b0 (pc := 17) (b := decide (0 ≤ b ∧ b ≤ 31)) hx hb dX5_isPlace_17 (tgt := 24) (by decide)  (fun c_17 => ?_) (fun c_17 => ?_)
    · replace c_17 := of_decide_eq_false c_17
      refine lv_iconst (pc := 24) (v := iv 0) hx hb dX5_isPlace_24 rfl ?_
      refine c_zret (pc := 25) hC hQ hP hD hS (by decide) (by decide) dX5_isPlace_25 nz_0 ?_
      exact ⟨congrArg (fun z => some (Value.int z)) (bz_0 (decide_eq_false (by omega))), rfl⟩
    · replace c_17 := of_decide_eq_true c_17
      refine lv_iconst (pc := 20) (v := iv 1) hx hb dX5_isPlace_20 rfl ?_
      refine lv_goto (pc := 21) (tgt := 25) hx hb dX5_isPlace_21 (by decide) ?_
      refine c_zret (pc := 25) hC hQ hP hD hS (by decide) (by decide) dX5_isPlace_25 nz_1 ?_
      exact ⟨congrArg (fun z => some (Value.int z)) (bz_1 (decide_eq_true (by omega))), rfl⟩
end
section
abbrev rm_c_m_isLight : Room := { frames := 0, cells := 0, slots := 0, locals := 0 }
set_option maxRecDepth 100000 in
set_option maxHeartbeats 4000000 in
theorem c_m_isLight (l : Launch) (ε : EV) (m0 : Nat) (ad : Nat → Nat) (n : Nat → Int) (G : Nat → Nat → Int) (R : va_W) (q t : Int) (hp : 0 ≤ q ∧ q < 20) (hv : PQ G q) (ht : 0 ≤ t ∧ t < 1000000) : CT l yX5_isLight cX5_isLight 5 (some .boolean) rm_c_m_isLight ε [.ref m0, .int (iv q), .int (iv t)] (wM ε m0 ad n G ++ R) (fun v w => v = some (.int (iv (bz (LQ G q t)))) ∧ w = wM ε m0 ad n G ++ R) NX := by
  refine CT.intro (by decide +kernel) (Nat.le_of_ble_eq_true rfl) ?_
  intro p9 e9 s9 m9 a9 bl9 me9 c9 ls Q9 hC hE hP hD hl hQ
  have hx := hC.1
  have hb := hC.2.1
  have hK := hE.K
  have hS : WS ε s9.heap s9.heap [] := va_S.rf
  have hl : lv_has ls 5 [(0, .ref m0), (1, .int (iv q)), (2, .int (iv t))] := hl
  obtain ⟨H, hH⟩ : ∃ H, H = s9.heap := ⟨_, rfl⟩
  obtain ⟨locs, hlo⟩ : ∃ z : List Loc, z = [] := ⟨_, rfl⟩
  rw [← hH] at hP ⊢
  have hS : WS ε s9.heap H locs := by rw [hH, hlo]; exact hS
  rw [← hlo]
  clear hH hlo
  have hper := hv.per
  unfold PQ at hv
  generalize hcc : cq G q = c at hv
  refine lv_iload_n (pc := 0) hx hb dX5_isLight_0 rfl (lv_at hl 2 rfl) ?_
  refine lv_aload_n (pc := 1) hx hb dX5_isLight_1 rfl (lv_at hl 0 rfl) ?_
  refine r_get (pc := 2) hC hK hP wM_o (hc := rfl) (fun w h => wt_1 w h) 5 (by decide) m_1_20 (fun _ h => h) (v := .ref (ad 3)) rfl dX5_isLight_2 ?_
  refine lv_iload_n (pc := 5) hx hb dX5_isLight_5 rfl (lv_at hl 1 rfl) ?_
  refine r_iald (pc := 6) (z := q) hC hK hP wM_3 ⟨by omega, by omega, by decide⟩ dX5_isLight_6 ?_
  refine r_irem (pc := 7) (a := t) (b := G 3 q.toNat) hx hb dX5_isLight_7 ⟨⟨by omega, by omega⟩, by omega, by omega⟩ ?_
  have hm_7 := Int.emod_nonneg t (show (G 3 q.toNat) ≠ 0 by omega)
  have hn_7 := Int.emod_lt_of_pos t (show 0 < (G 3 q.toNat) by omega)
  refine lv_istore_n (lv' := [(3, .int (iv (t % (G 3 q.toNat)))), (0, .ref m0), (1, .int (iv q)), (2, .int (iv t))]) (pc := 8) hx hb dX5_isLight_8 rfl hl (by decide) rfl (fun ls hl => ?_)
  refine lv_iconst (pc := 9) (v := iv 0) hx hb dX5_isLight_9 rfl ?_
  refine lv_istore (lv' := [(4, .int (iv 0)), (3, .int (iv (t % (G 3 q.toNat)))), (0, .ref m0), (1, .int (iv q)), (2, .int (iv t))]) (pc := 10) hx hb dX5_isLight_10 hl (by decide) rfl (fun ls hl => ?_)
  have lp_12 : ∀ (k9 : Nat) (f : Nat) (k : Int) (r : Int) (hk : k + f = c ∧ 0 ≤ k) (hr : 0 ≤ r ∧ r < sf (ph G q) f k) (he : litF (ph G q) f k r = LQ G q t) , (f) < k9 → ∀ (H : Heap) (locs : List Loc) (ls : Array Slot), WP ε (wM ε m0 ad n G ++ R) H → WD ε (wM ε m0 ad n G ++ R) → WS ε s9.heap H locs → lv_has ls 5 [(0, .ref m0), (1, .int (iv q)), (3, .int (iv r)), (4, .int (iv k))] → W p9 l e9 rm_c_m_isLight s9 m9 a9 bl9 me9 c9 H locs 0 0 Q9 (F0 m9 12 ls []) := by
    intro k9
    induction k9 with
    | zero => intro f k r hk hr he h9; exact absurd h9 (Nat.not_lt_zero _)
    | succ k9 ih_12 =>
      intro f k r hk hr he h9 H locs ls hP hD hS hl
      obtain ⟨g, rfl⟩ := sf_pos hr.1 hr.2
      have hph : ph G q k = G 1 (6 * q + k).toNat := rfl
      have hc6 := hv.1
      have hd9 : 1 ≤ G 1 (6 * q + k).toNat ∧ G 1 (6 * q + k).toNat ≤ 9 := hv.2.1 k (by omega) (by omega)
      have hr1 := hr.1
      have hr3 := hr.2
      have hbd := (sf_bd hv.2.1 (g + 1) k (by omega) (by omega)).2
      refine lv_iload_n (pc := 12) hx hb dX5_isLight_12 rfl (lv_at hl 2 rfl) ?_
      refine lv_aload_n (pc := 13) hx hb dX5_isLight_13 rfl (lv_at hl 0 rfl) ?_
      refine r_get (pc := 14) hC hK hP wM_o (hc := rfl) (fun w h => wt_1 w h) 3 (by decide) m_1_18 (fun _ h => h) (v := .ref (ad 1)) rfl dX5_isLight_14 ?_
      refine lv_bipush (pc := 17) (v := iv 6) hx hb dX5_isLight_17 (by decide) ?_
      refine lv_iload_n (pc := 19) hx hb dX5_isLight_19 rfl (lv_at hl 1 rfl) ?_
      refine r_imul (pc := 20) (a := 6) (b := q) hx hb dX5_isLight_20 ?_
      refine lv_iload (pc := 21) hx hb dX5_isLight_21 (lv_at hl 3 rfl) ?_
      refine r_iadd (pc := 23) (a := 6 * q) (b := k) hx hb dX5_isLight_23 ?_
      refine r_iald (pc := 24) (z := (6 * q) + k) hC hK hP wM_1 ⟨by omega, by omega, by decide⟩ dX5_isLight_24 ?_
      refine r_icmp_lt (pc := 25) (a := r) (b := G 1 ((6 * q) + k).toNat) hx hb dX5_isLight_25 (tgt := 49) (by decide) ⟨by omega, by omega⟩ ⟨by omega, by omega⟩ (fun c_25 => ?_) (fun c_25 => ?_)
      · have c_25_ := c_25
        have he2 : decide (k % 2 = 0) = LQ G q t := by rw [litF, if_pos (show r < ph G q k from c_25)] at he; exact he
        refine lv_iload (pc := 49) hx hb dX5_isLight_49 (lv_at hl 3 rfl) ?_
        refine lv_iconst (pc := 51) (v := iv 2) hx hb dX5_isLight_51 rfl ?_
        refine r_irem (pc := 52) (a := k) (b := 2) hx hb dX5_isLight_52 ⟨⟨by omega, by omega⟩, by omega, by omega⟩ ?_
        have hm_52 := Int.emod_nonneg k (show 2 ≠ 0 by omega)
        have hn_52 := Int.emod_lt_of_pos k (show 0 < 2 by omega)
        refine r_if_ne (pc := 53) (a := k % 2) hx hb dX5_isLight_53 (tgt := 60) (by decide) ⟨by omega, by omega⟩ (fun c_53 => ?_) (fun c_53 => ?_)
        · have c_53_ := c_53
          refine lv_iconst (pc := 60) (v := iv 0) hx hb dX5_isLight_60 rfl ?_
          refine c_zret (pc := 61) hC hQ hP hD hS (by decide) (by decide) dX5_isLight_61 nz_0 ?_
          exact ⟨congrArg (fun z => some (Value.int z)) (bz_0 (by rw [← he2]; exact decide_eq_false (by omega))), rfl⟩
        · have c_53_ := c_53
          refine lv_iconst (pc := 56) (v := iv 1) hx hb dX5_isLight_56 rfl ?_
          refine lv_goto (pc := 57) (tgt := 61) hx hb dX5_isLight_57 (by decide) ?_
          refine c_zret (pc := 61) hC hQ hP hD hS (by decide) (by decide) dX5_isLight_61 nz_1 ?_
          exact ⟨congrArg (fun z => some (Value.int z)) (bz_1 (by rw [← he2]; exact decide_eq_true (by omega))), rfl⟩
      · have c_25_ := c_25
        refine lv_iload_n (pc := 28) hx hb dX5_isLight_28 rfl (lv_at hl 2 rfl) ?_
        refine lv_aload_n (pc := 29) hx hb dX5_isLight_29 rfl (lv_at hl 0 rfl) ?_
        refine r_get (pc := 30) hC hK hP wM_o (hc := rfl) (fun w h => wt_1 w h) 3 (by decide) m_1_18 (fun _ h => h) (v := .ref (ad 1)) rfl dX5_isLight_30 ?_
        refine lv_bipush (pc := 33) (v := iv 6) hx hb dX5_isLight_33 (by decide) ?_
        refine lv_iload_n (pc := 35) hx hb dX5_isLight_35 rfl (lv_at hl 1 rfl) ?_
        refine r_imul (pc := 36) (a := 6) (b := q) hx hb dX5_isLight_36 ?_
        refine lv_iload (pc := 37) hx hb dX5_isLight_37 (lv_at hl 3 rfl) ?_
        refine r_iadd (pc := 39) (a := 6 * q) (b := k) hx hb dX5_isLight_39 ?_
        refine r_iald (pc := 40) (z := (6 * q) + k) hC hK hP wM_1 ⟨by omega, by omega, by decide⟩ dX5_isLight_40 ?_
        refine r_isub (pc := 41) (a := r) (b := G 1 ((6 * q) + k).toNat) hx hb dX5_isLight_41 ?_
        refine lv_istore_n (lv' := [(3, .int (iv (r - (G 1 ((6 * q) + k).toNat)))), (0, .ref m0), (1, .int (iv q)), (4, .int (iv k))]) (pc := 42) hx hb dX5_isLight_42 rfl hl (by decide) rfl (fun ls hl => ?_)
        refine lv_iinc (v := iv (k + 1)) (lv' := [(4, .int (iv (k + 1))), (3, .int (iv (r - (G 1 ((6 * q) + k).toNat)))), (0, .ref m0), (1, .int (iv q))]) (pc := 43) hx hb dX5_isLight_43 hl (k := 3) rfl (iv_add _ _) (by decide) rfl (fun ls hl => ?_)
        refine lv_goto (pc := 46) (tgt := 12) hx hb dX5_isLight_46 (by decide) ?_
        exact ih_12 g (k + 1) (r - (G 1 ((6 * q) + k).toNat)) (by omega) (by have h9 := hr.2; rw [sf] at h9; exact ⟨by omega, by omega⟩) (by rw [litF, if_neg (show ¬ r < ph G q k by omega)] at he; exact he) (by omega) _ _ _ hP hD hS (lv_sub hl [2, 3, 1, 0] rfl)
  exact lp_12 _ c 0 (t % (G 3 q.toNat)) (by omega) (by rw [← hv.2.2]; exact ⟨Int.emod_nonneg _ (by omega), Int.emod_lt_of_pos _ (by omega)⟩) (by unfold LQ lt; rw [hcc]) (Nat.lt_succ_self _) _ _ _ hP hD hS (lv_sub hl [2, 3, 1, 0] rfl)

abbrev rm_c_m_returns : Room := { frames := 1, cells := 0, slots := 0, locals := 30 }
set_option maxRecDepth 100000 in
set_option maxHeartbeats 4000000 in
theorem c_m_returns (l : Launch) (ε : EV) (m0 : Nat) (ad : Nat → Nat) (n : Nat → Int) (G : Nat → Nat → Int) (R : va_W) (q : Int) (hp : 0 ≤ q ∧ q < 20) (hv : PQ G q) : CT l yX5_returns cX5_returns 6 (some .int) rm_c_m_returns ε [.ref m0, .int (iv q)] (wM ε m0 ad n G ++ R) (fun v w => v = some (.int (iv (retn (LQ G q) (G 3 q.toNat)))) ∧ w = wM ε m0 ad n G ++ R) NX := by
  refine CT.intro (by decide +kernel) (Nat.le_of_ble_eq_true rfl) ?_
  intro p9 e9 s9 m9 a9 bl9 me9 c9 ls Q9 hC hE hP hD hl hQ
  have hx := hC.1
  have hb := hC.2.1
  have hK := hE.K
  have hS : WS ε s9.heap s9.heap [] := va_S.rf
  have hl : lv_has ls 6 [(0, .ref m0), (1, .int (iv q))] := hl
  obtain ⟨H, hH⟩ : ∃ H, H = s9.heap := ⟨_, rfl⟩
  obtain ⟨locs, hlo⟩ : ∃ z : List Loc, z = [] := ⟨_, rfl⟩
  rw [← hH] at hP ⊢
  have hS : WS ε s9.heap H locs := by rw [hH, hlo]; exact hS
  rw [← hlo]
  clear hH hlo
  have hper := hv.per
  refine lv_aload_n (pc := 0) hx hb dX5_returns_0 rfl (lv_at hl 0 rfl) ?_
  refine r_get (pc := 1) hC hK hP wM_o (hc := rfl) (fun w h => wt_1 w h) 5 (by decide) m_1_20 (fun _ h => h) (v := .ref (ad 3)) rfl dX5_returns_1 ?_
  refine lv_iload_n (pc := 4) hx hb dX5_returns_4 rfl (lv_at hl 1 rfl) ?_
  refine r_iald (pc := 5) (z := q) hC hK hP wM_3 ⟨by omega, by omega, by decide⟩ dX5_returns_5 ?_
  refine lv_istore_n (lv' := [(2, .int (iv (G 3 q.toNat))), (0, .ref m0), (1, .int (iv q))]) (pc := 6) hx hb dX5_returns_6 rfl hl (by decide) rfl (fun ls hl => ?_)
  refine lv_iconst (pc := 7) (v := iv 1) hx hb dX5_returns_7 rfl ?_
  refine lv_istore_n (lv' := [(3, .int (iv 1)), (2, .int (iv (G 3 q.toNat))), (0, .ref m0), (1, .int (iv q))]) (pc := 8) hx hb dX5_returns_8 rfl hl (by decide) rfl (fun ls hl => ?_)
  have lp_9 : ∀ (k9 : Nat) (kf : Nat) (d : Int) (hd : 1 ≤ d ∧ d + kf = G 3 q.toNat) (he : retF (LQ G q) (G 3 q.toNat) kf d = retn (LQ G q) (G 3 q.toNat)) , (kf) < k9 → ∀ (H : Heap) (locs : List Loc) (ls : Array Slot), WP ε (wM ε m0 ad n G ++ R) H → WD ε (wM ε m0 ad n G ++ R) → WS ε s9.heap H locs → lv_has ls 6 [(0, .ref m0), (1, .int (iv q)), (2, .int (iv (G 3 q.toNat))), (3, .int (iv d))] → W p9 l e9 rm_c_m_returns s9 m9 a9 bl9 me9 c9 H locs 0 0 Q9 (F0 m9 9 ls []) := by
    intro k9
    induction k9 with
    | zero => intro kf d hd he h9; exact absurd h9 (Nat.not_lt_zero _)
    | succ k9 ih_9 =>
      intro kf d hd he h9 H locs ls hP hD hS hl
      refine lv_iload_n (pc := 9) hx hb dX5_returns_9 rfl (lv_at hl 3 rfl) ?_
      refine lv_iload_n (pc := 10) hx hb dX5_returns_10 rfl (lv_at hl 2 rfl) ?_
      refine r_icmp_ge (pc := 11) (a := d) (b := G 3 q.toNat) hx hb dX5_returns_11 (tgt := 86) (by decide) ⟨by omega, by omega⟩ ⟨by omega, by omega⟩ (fun c_11 => ?_) (fun c_11 => ?_)
      · have c_11_ := c_11
        have hret : G 3 q.toNat = retn (LQ G q) (G 3 q.toNat) := by
         have h9 : kf = 0 := by omega
         subst h9
         exact he
        refine lv_iload_n (pc := 86) hx hb dX5_returns_86 rfl (lv_at hl 2 rfl) ?_
        refine c_iret (pc := 87) hC hQ hP hD hS (by decide) (by decide) dX5_returns_87 ?_
        exact ⟨congrArg (fun z => some (Value.int (iv z))) hret, rfl⟩
      · have c_11_ := c_11
        obtain ⟨kg, rfl⟩ : ∃ kg, kf = kg + 1 := ⟨kf - 1, by omega⟩
        have lp_25 : ∀ (bb : Bool) (hb9 : bb = true ↔ G 3 q.toNat % d = 0), ∀ (H : Heap) (locs : List Loc) (ls : Array Slot), WP ε (wM ε m0 ad n G ++ R) H → WD ε (wM ε m0 ad n G ++ R) → WS ε s9.heap H locs → lv_has ls 6 [(0, .ref m0), (1, .int (iv q)), (2, .int (iv (G 3 q.toNat))), (3, .int (iv d))] → W p9 l e9 rm_c_m_returns s9 m9 a9 bl9 me9 c9 H locs 0 0 Q9 (F0 m9 25 ls [.int (iv (bz bb))]) := by
          intro bb hb9 H locs ls hP hD hS hl
          refine lv_istore (lv' := [(4, .int (iv (bz bb))), (0, .ref m0), (1, .int (iv q)), (2, .int (iv (G 3 q.toNat))), (3, .int (iv d))]) (pc := 25) hx hb dX5_returns_25 hl (by decide) rfl (fun ls hl => ?_)
          refine lv_iconst (pc := 27) (v := iv 0) hx hb dX5_returns_27 rfl ?_
          refine lv_istore (lv' := [(5, .int (iv 0)), (4, .int (iv (bz bb))), (0, .ref m0), (1, .int (iv q)), (2, .int (iv (G 3 q.toNat))), (3, .int (iv d))]) (pc := 28) hx hb dX5_returns_28 hl (by decide) rfl (fun ls hl => ?_)
          have lp_30 : ∀ (k9 : Nat) (is : Bool) (u : Int) (hu : 0 ≤ u ∧ u ≤ G 3 q.toNat) (hi : is = true ↔ (G 3 q.toNat % d = 0 ∧ ALLb (fun u9 => LQ G q u9 = LQ G q (u9 + d)) u)) , ((G 3 q.toNat - u).toNat) < k9 → ∀ (H : Heap) (locs : List Loc) (ls : Array Slot), WP ε (wM ε m0 ad n G ++ R) H → WD ε (wM ε m0 ad n G ++ R) → WS ε s9.heap H locs → lv_has ls 6 [(0, .ref m0), (1, .int (iv q)), (2, .int (iv (G 3 q.toNat))), (3, .int (iv d)), (4, .int (iv (bz is))), (5, .int (iv u))] → W p9 l e9 rm_c_m_returns s9 m9 a9 bl9 me9 c9 H locs 0 0 Q9 (F0 m9 30 ls []) := by
            intro k9
            induction k9 with
            | zero => intro is u hu hi h9; exact absurd h9 (Nat.not_lt_zero _)
            | succ k9 ih_30 =>
              intro is u hu hi h9 H locs ls hP hD hS hl
              refine lv_iload (pc := 30) hx hb dX5_returns_30 (lv_at hl 5 rfl) ?_
              refine lv_iload_n (pc := 32) hx hb dX5_returns_32 rfl (lv_at hl 2 rfl) ?_
              refine r_icmp_ge (pc := 33) (a := u) (b := G 3 q.toNat) hx hb dX5_returns_33 (tgt := 73) (by decide) ⟨by omega, by omega⟩ ⟨by omega, by omega⟩ (fun c_33 => ?_) (fun c_33 => ?_)
              · have c_33_ := c_33
                refine lv_iload (pc := 73) hx hb dX5_returns_73 (lv_at hl 4 rfl) ?_
                refine r_if_b0 (pc := 75) (b := is) hx hb dX5_returns_75 (tgt := 80) (by decide)  (fun c_75 => ?_) (fun c_75 => ?_)
                · have c_75_ := c_75
                  have hbk : retF (LQ G q) (G 3 q.toNat) kg (d + 1) = retn (LQ G q) (G 3 q.toNat) := by
                   have h8 : ¬ okR (LQ G q) (G 3 q.toNat) d := fun z => by
                    have h7 : is = true := hi.mpr ⟨z.1, fun u9 h1 h2 => z.2 u9 h1 (by omega)⟩
                    exact absurd (h7.symm.trans c_75) (by decide)
                   rw [retF, tb_f h8] at he
                   exact he
                  refine lv_iinc (v := iv (d + 1)) (lv' := [(3, .int (iv (d + 1))), (0, .ref m0), (1, .int (iv q)), (2, .int (iv (G 3 q.toNat))), (4, .int (iv (bz is))), (5, .int (iv u))]) (pc := 80) hx hb dX5_returns_80 hl (k := 3) rfl (iv_add _ _) (by decide) rfl (fun ls hl => ?_)
                  refine lv_goto (pc := 83) (tgt := 9) hx hb dX5_returns_83 (by decide) ?_
                  exact ih_9 kg (d + 1) (by omega) hbk (by omega) _ _ _ hP hD hS (lv_sub hl [1, 2, 3, 0] rfl)
                · have c_75_ := c_75
                  have hret : d = retn (LQ G q) (G 3 q.toNat) := by
                   have h8 := hi.mp c_75
                   rw [retF, if_pos (tb_t (show okR (LQ G q) (G 3 q.toNat) d from ⟨h8.1, h8.2.eq (by omega)⟩))] at he
                   exact he
                  refine lv_iload_n (pc := 78) hx hb dX5_returns_78 rfl (lv_at hl 3 rfl) ?_
                  refine c_iret (pc := 79) hC hQ hP hD hS (by decide) (by decide) dX5_returns_79 ?_
                  exact ⟨congrArg (fun z => some (Value.int (iv z))) hret, rfl⟩
              · have c_33_ := c_33
                refine lv_iload (pc := 36) hx hb dX5_returns_36 (lv_at hl 4 rfl) ?_
                refine r_if_b0 (pc := 38) (b := is) hx hb dX5_returns_38 (tgt := 73) (by decide)  (fun c_38 => ?_) (fun c_38 => ?_)
                · have c_38_ := c_38
                  refine lv_iload (pc := 73) hx hb dX5_returns_73 (lv_at hl 4 rfl) ?_
                  refine r_if_b0 (pc := 75) (b := is) hx hb dX5_returns_75 (tgt := 80) (by decide)  (fun c_75 => ?_) (fun c_75 => ?_)
                  · have c_75_ := c_75
                    have hbk : retF (LQ G q) (G 3 q.toNat) kg (d + 1) = retn (LQ G q) (G 3 q.toNat) := by
                     have h8 : ¬ okR (LQ G q) (G 3 q.toNat) d := fun z => by
                      have h7 : is = true := hi.mpr ⟨z.1, fun u9 h1 h2 => z.2 u9 h1 (by omega)⟩
                      exact absurd (h7.symm.trans c_75) (by decide)
                     rw [retF, tb_f h8] at he
                     exact he
                    refine lv_iinc (v := iv (d + 1)) (lv' := [(3, .int (iv (d + 1))), (0, .ref m0), (1, .int (iv q)), (2, .int (iv (G 3 q.toNat))), (4, .int (iv (bz is))), (5, .int (iv u))]) (pc := 80) hx hb dX5_returns_80 hl (k := 3) rfl (iv_add _ _) (by decide) rfl (fun ls hl => ?_)
                    refine lv_goto (pc := 83) (tgt := 9) hx hb dX5_returns_83 (by decide) ?_
                    exact ih_9 kg (d + 1) (by omega) hbk (by omega) _ _ _ hP hD hS (lv_sub hl [1, 2, 3, 0] rfl)
                  · have c_75_ := c_75
                    exact absurd (c_38.symm.trans c_75) (by decide)
                · have c_38_ := c_38
                  refine lv_aload_n (pc := 41) hx hb dX5_returns_41 rfl (lv_at hl 0 rfl) ?_
                  refine lv_iload_n (pc := 42) hx hb dX5_returns_42 rfl (lv_at hl 1 rfl) ?_
                  refine lv_iload (pc := 43) hx hb dX5_returns_43 (lv_at hl 5 rfl) ?_
                  refine c_callV (pc := 45) (y := yX5_isLight) (As := [.int (iv q), .int (iv u)]) (rest := []) hC hE hP hD hS hl.1 (c_m_isLight l ε m0 ad n G R (q) (u) hp hv ⟨by omega, by omega⟩) m_10_7 m_10_8 m_10_9 m_0_5 m_10_10 wM_o rfl hd_yX5_isLight rfl ⟨⟨by decide, by decide⟩, by decide, by decide⟩ (Nat.le_of_ble_eq_true rfl) rfl dX5_returns_45 kxN (fun v ws1 H locs hq hP hD hS => ?_)
                  rw [hq.2] at hP hD
                  rw [hq.1]
                  dsimp only [Option.toList, List.cons_append, List.nil_append]
                  refine lv_aload_n (pc := 48) hx hb dX5_returns_48 rfl (lv_at hl 0 rfl) ?_
                  refine lv_iload_n (pc := 49) hx hb dX5_returns_49 rfl (lv_at hl 1 rfl) ?_
                  refine lv_iload (pc := 50) hx hb dX5_returns_50 (lv_at hl 5 rfl) ?_
                  refine lv_iload_n (pc := 52) hx hb dX5_returns_52 rfl (lv_at hl 3 rfl) ?_
                  refine r_iadd (pc := 53) (a := u) (b := d) hx hb dX5_returns_53 ?_
                  refine c_callV (pc := 54) (y := yX5_isLight) (As := [.int (iv q), .int (iv (u + d))]) (rest := [.int (iv (bz (LQ G q u)))]) hC hE hP hD hS hl.1 (c_m_isLight l ε m0 ad n G R (q) (u + d) hp hv ⟨by omega, by omega⟩) m_10_7 m_10_8 m_10_9 m_0_5 m_10_10 wM_o rfl hd_yX5_isLight rfl ⟨⟨by decide, by decide⟩, by decide, by decide⟩ (Nat.le_of_ble_eq_true rfl) rfl dX5_returns_54 kxN (fun v ws1 H locs hq hP hD hS => ?_)
                  rw [hq.2] at hP hD
                  rw [hq.1]
                  dsimp only [Option.toList, List.cons_append, List.nil_append]
                  refine r_icmp_ne (pc := 57) (a := bz (LQ G q u)) (b := bz (LQ G q (u + d))) hx hb dX5_returns_57 (tgt := 64) (by decide) (bz_rg _) (bz_rg _) (fun c_57 => ?_) (fun c_57 => ?_)
                  · have c_57_ := c_57
                    refine lv_iconst (pc := 64) (v := iv 0) hx hb dX5_returns_64 rfl ?_
                    refine lv_istore (lv' := [(4, .int (iv 0)), (0, .ref m0), (1, .int (iv q)), (2, .int (iv (G 3 q.toNat))), (3, .int (iv d)), (5, .int (iv u))]) (pc := 65) hx hb dX5_returns_65 hl (by decide) rfl (fun ls hl => ?_)
                    refine lv_iinc (v := iv (u + 1)) (lv' := [(5, .int (iv (u + 1))), (4, .int (iv 0)), (0, .ref m0), (1, .int (iv q)), (2, .int (iv (G 3 q.toNat))), (3, .int (iv d))]) (pc := 67) hx hb dX5_returns_67 hl (k := 5) rfl (iv_add _ _) (by decide) rfl (fun ls hl => ?_)
                    refine lv_goto (pc := 70) (tgt := 30) hx hb dX5_returns_70 (by decide) ?_
                    exact ih_30 false (u + 1) (by omega) (al_f (P := fun u9 => LQ G q u9 = LQ G q (u9 + d)) (by omega) (fun z => c_57 (congrArg bz z))) (by omega) _ _ _ hP hD hS (lv_sub hl [2, 3, 4, 5, 1, 0] rfl)
                  · have c_57_ := c_57
                    refine lv_iconst (pc := 60) (v := iv 1) hx hb dX5_returns_60 rfl ?_
                    refine lv_goto (pc := 61) (tgt := 65) hx hb dX5_returns_61 (by decide) ?_
                    refine lv_istore (lv' := [(4, .int (iv 1)), (0, .ref m0), (1, .int (iv q)), (2, .int (iv (G 3 q.toNat))), (3, .int (iv d)), (5, .int (iv u))]) (pc := 65) hx hb dX5_returns_65 hl (by decide) rfl (fun ls hl => ?_)
                    refine lv_iinc (v := iv (u + 1)) (lv' := [(5, .int (iv (u + 1))), (4, .int (iv 1)), (0, .ref m0), (1, .int (iv q)), (2, .int (iv (G 3 q.toNat))), (3, .int (iv d))]) (pc := 67) hx hb dX5_returns_67 hl (k := 5) rfl (iv_add _ _) (by decide) rfl (fun ls hl => ?_)
                    refine lv_goto (pc := 70) (tgt := 30) hx hb dX5_returns_70 (by decide) ?_
                    exact ih_30 true (u + 1) (by omega) (al_t (P := fun u9 => LQ G q u9 = LQ G q (u9 + d)) hu.1 hi c_38 (bz_inj (by omega))) (by omega) _ _ _ hP hD hS (lv_sub hl [2, 3, 4, 5, 1, 0] rfl)
          exact lp_30 _ bb 0 (by omega) (hb9.trans ⟨fun z => ⟨z, ALLb.zero (by omega)⟩, fun z => z.1⟩) (Nat.lt_succ_self _) _ _ _ hP hD hS (lv_sub hl [2, 3, 4, 5, 1, 0] rfl)
        refine lv_iload_n (pc := 14) hx hb dX5_returns_14 rfl (lv_at hl 2 rfl) ?_
        refine lv_iload_n (pc := 15) hx hb dX5_returns_15 rfl (lv_at hl 3 rfl) ?_
        refine r_irem (pc := 16) (a := G 3 q.toNat) (b := d) hx hb dX5_returns_16 ⟨⟨by omega, by omega⟩, by omega, by omega⟩ ?_
        have hm_16 := Int.emod_nonneg (G 3 q.toNat) (show d ≠ 0 by omega)
        have hn_16 := Int.emod_lt_of_pos (G 3 q.toNat) (show 0 < d by omega)
        refine r_if_ne (pc := 17) (a := (G 3 q.toNat) % d) hx hb dX5_returns_17 (tgt := 24) (by decide) ⟨by omega, by omega⟩ (fun c_17 => ?_) (fun c_17 => ?_)
        · have c_17_ := c_17
          refine lv_iconst (pc := 24) (v := iv 0) hx hb dX5_returns_24 rfl ?_
          exact lp_25 false ⟨fun z => (by cases z), fun z => absurd z c_17⟩ _ _ _ hP hD hS (lv_sub hl [0, 1, 2, 3] rfl)
        · have c_17_ := c_17
          refine lv_iconst (pc := 20) (v := iv 1) hx hb dX5_returns_20 rfl ?_
          refine lv_goto (pc := 21) (tgt := 25) hx hb dX5_returns_21 (by decide) ?_
          exact lp_25 true ⟨fun _ => (by omega), fun _ => rfl⟩ _ _ _ hP hD hS (lv_sub hl [0, 1, 2, 3] rfl)
  exact lp_9 _ (((G 3 q.toNat) - 1).toNat) 1 (by omega) rfl (Nat.lt_succ_self _) _ _ _ hP hD hS (lv_sub hl [2, 3, 1, 0] rfl)

abbrev rm_c_m_alike : Room := { frames := 2, cells := 0, slots := 0, locals := 60 }
set_option maxRecDepth 100000 in
set_option maxHeartbeats 4000000 in
theorem c_m_alike (l : Launch) (ε : EV) (m0 : Nat) (ad : Nat → Nat) (n : Nat → Int) (G : Nat → Nat → Int) (R : va_W) (q r : Int) (hp : 0 ≤ q ∧ q < 20) (hv : PQ G q) (hp2 : 0 ≤ r ∧ r < 20) (hv2 : PQ G r) : CT l yX5_alike cX5_alike 8 (some .boolean) rm_c_m_alike ε [.ref m0, .int (iv q), .int (iv r)] (wM ε m0 ad n G ++ R) (fun v w => v = some (.int (iv (bz (tb (AK (LQ G q) (LQ G r) (G 3 q.toNat) (G 3 r.toNat)))))) ∧ w = wM ε m0 ad n G ++ R) NX := by
  refine CT.intro (by decide +kernel) (Nat.le_of_ble_eq_true rfl) ?_
  intro p9 e9 s9 m9 a9 bl9 me9 c9 ls Q9 hC hE hP hD hl hQ
  have hx := hC.1
  have hb := hC.2.1
  have hK := hE.K
  have hS : WS ε s9.heap s9.heap [] := va_S.rf
  have hl : lv_has ls 8 [(0, .ref m0), (1, .int (iv q)), (2, .int (iv r))] := hl
  obtain ⟨H, hH⟩ : ∃ H, H = s9.heap := ⟨_, rfl⟩
  obtain ⟨locs, hlo⟩ : ∃ z : List Loc, z = [] := ⟨_, rfl⟩
  rw [← hH] at hP ⊢
  have hS : WS ε s9.heap H locs := by rw [hH, hlo]; exact hS
  rw [← hlo]
  clear hH hlo
  have hper := hv.per
  have hper2 := hv2.per
  have hrb := retn_bd (f := LQ G q) (per := G 3 q.toNat) (by omega)
  have hrb2 := retn_bd (f := LQ G r) (per := G 3 r.toNat) (by omega)
  refine lv_aload_n (pc := 0) hx hb dX5_alike_0 rfl (lv_at hl 0 rfl) ?_
  refine lv_iload_n (pc := 1) hx hb dX5_alike_1 rfl (lv_at hl 1 rfl) ?_
  refine c_callV (pc := 2) (y := yX5_returns) (As := [.int (iv q)]) (rest := []) hC hE hP hD hS hl.1 (c_m_returns l ε m0 ad n G R (q) hp hv) m_10_3 m_10_4 m_10_5 m_0_5 m_10_6 wM_o rfl hd_yX5_returns rfl ⟨⟨by decide, by decide⟩, by decide, by decide⟩ (Nat.le_of_ble_eq_true rfl) rfl dX5_alike_2 kxN (fun v ws1 H locs hq hP hD hS => ?_)
  rw [hq.2] at hP hD
  rw [hq.1]
  dsimp only [Option.toList, List.cons_append, List.nil_append]
  refine lv_istore_n (lv' := [(3, .int (iv (retn (LQ G q) (G 3 q.toNat)))), (0, .ref m0), (1, .int (iv q)), (2, .int (iv r))]) (pc := 5) hx hb dX5_alike_5 rfl hl (by decide) rfl (fun ls hl => ?_)
  refine lv_iconst (pc := 6) (v := iv 0) hx hb dX5_alike_6 rfl ?_
  refine lv_istore (lv' := [(4, .int (iv 0)), (3, .int (iv (retn (LQ G q) (G 3 q.toNat)))), (0, .ref m0), (1, .int (iv q)), (2, .int (iv r))]) (pc := 7) hx hb dX5_alike_7 hl (by decide) rfl (fun ls hl => ?_)
  refine lv_iconst (pc := 9) (v := iv 0) hx hb dX5_alike_9 rfl ?_
  refine lv_istore (lv' := [(5, .int (iv 0)), (4, .int (iv 0)), (3, .int (iv (retn (LQ G q) (G 3 q.toNat)))), (0, .ref m0), (1, .int (iv q)), (2, .int (iv r))]) (pc := 10) hx hb dX5_alike_10 hl (by decide) rfl (fun ls hl => ?_)
  have lp_12 : ∀ (k9 : Nat) (fd : Bool) (t : Int) (ht : 0 ≤ t ∧ t ≤ retn (LQ G q) (G 3 q.toNat)) (hf : fd = true ↔ EXb (fun t9 => retn (LQ G q) (G 3 q.toNat) = retn (LQ G r) (G 3 r.toNat) ∧ ALLb (fun u9 => LQ G q (u9 + t9) = LQ G r u9) (retn (LQ G q) (G 3 q.toNat))) t) , ((retn (LQ G q) (G 3 q.toNat) - t).toNat) < k9 → ∀ (H : Heap) (locs : List Loc) (ls : Array Slot), WP ε (wM ε m0 ad n G ++ R) H → WD ε (wM ε m0 ad n G ++ R) → WS ε s9.heap H locs → lv_has ls 8 [(0, .ref m0), (1, .int (iv q)), (2, .int (iv r)), (3, .int (iv (retn (LQ G q) (G 3 q.toNat)))), (4, .int (iv (bz fd))), (5, .int (iv t))] → W p9 l e9 rm_c_m_alike s9 m9 a9 bl9 me9 c9 H locs 0 0 Q9 (F0 m9 12 ls []) := by
    intro k9
    induction k9 with
    | zero => intro fd t ht hf h9; exact absurd h9 (Nat.not_lt_zero _)
    | succ k9 ih_12 =>
      intro fd t ht hf h9 H locs ls hP hD hS hl
      refine lv_iload (pc := 12) hx hb dX5_alike_12 (lv_at hl 5 rfl) ?_
      refine lv_iload_n (pc := 14) hx hb dX5_alike_14 rfl (lv_at hl 3 rfl) ?_
      refine r_icmp_ge (pc := 15) (a := t) (b := retn (LQ G q) (G 3 q.toNat)) hx hb dX5_alike_15 (tgt := 88) (by decide) ⟨by omega, by omega⟩ ⟨by omega, by omega⟩ (fun c_15 => ?_) (fun c_15 => ?_)
      · have c_15_ := c_15
        have hres : fd = true ↔ AK (LQ G q) (LQ G r) (G 3 q.toNat) (G 3 r.toNat) := by
         rw [hf]
         unfold AK
         constructor
         · rintro ⟨t9, h1, h2, h3, h4⟩
           exact ⟨h3, t9, h1, by omega, h4⟩
         · rintro ⟨h3, t9, h1, h2, h4⟩
           exact ⟨t9, h1, by omega, h3, h4⟩
        refine lv_iload (pc := 88) hx hb dX5_alike_88 (lv_at hl 4 rfl) ?_
        refine c_zret (pc := 90) hC hQ hP hD hS (by decide) (by decide) dX5_alike_90 (nz_b _) ?_
        exact ⟨congrArg (fun z => some (Value.int (iv (bz z)))) (tb_of hres), rfl⟩
      · have c_15_ := c_15
        refine lv_iload_n (pc := 18) hx hb dX5_alike_18 rfl (lv_at hl 3 rfl) ?_
        refine lv_aload_n (pc := 19) hx hb dX5_alike_19 rfl (lv_at hl 0 rfl) ?_
        refine lv_iload_n (pc := 20) hx hb dX5_alike_20 rfl (lv_at hl 2 rfl) ?_
        refine c_callV (pc := 21) (y := yX5_returns) (As := [.int (iv r)]) (rest := [.int (iv (retn (LQ G q) (G 3 q.toNat)))]) hC hE hP hD hS hl.1 (c_m_returns l ε m0 ad n G R (r) hp2 hv2) m_10_3 m_10_4 m_10_5 m_0_5 m_10_6 wM_o rfl hd_yX5_returns rfl ⟨⟨by decide, by decide⟩, by decide, by decide⟩ (Nat.le_of_ble_eq_true rfl) rfl dX5_alike_21 kxN (fun v ws1 H locs hq hP hD hS => ?_)
        rw [hq.2] at hP hD
        rw [hq.1]
        dsimp only [Option.toList, List.cons_append, List.nil_append]
        refine r_icmp_ne (pc := 24) (a := retn (LQ G q) (G 3 q.toNat)) (b := retn (LQ G r) (G 3 r.toNat)) hx hb dX5_alike_24 (tgt := 88) (by decide) ⟨by omega, by omega⟩ ⟨by omega, by omega⟩ (fun c_24 => ?_) (fun c_24 => ?_)
        · have c_24_ := c_24
          have hres : fd = true ↔ AK (LQ G q) (LQ G r) (G 3 q.toNat) (G 3 r.toNat) := by
           rw [hf]
           unfold AK
           constructor
           · rintro ⟨t9, h1, h2, h3, h4⟩
             exact ⟨h3, t9, h1, by omega, h4⟩
           · rintro ⟨h3, t9, h1, h2, h4⟩
             exact ⟨t9, h1, by omega, h3, h4⟩
          refine lv_iload (pc := 88) hx hb dX5_alike_88 (lv_at hl 4 rfl) ?_
          refine c_zret (pc := 90) hC hQ hP hD hS (by decide) (by decide) dX5_alike_90 (nz_b _) ?_
          exact ⟨congrArg (fun z => some (Value.int (iv (bz z)))) (tb_of hres), rfl⟩
        · have c_24_ := c_24
          refine lv_iconst (pc := 27) (v := iv 1) hx hb dX5_alike_27 rfl ?_
          refine lv_istore (lv' := [(6, .int (iv 1)), (0, .ref m0), (1, .int (iv q)), (2, .int (iv r)), (3, .int (iv (retn (LQ G q) (G 3 q.toNat)))), (4, .int (iv (bz fd))), (5, .int (iv t))]) (pc := 28) hx hb dX5_alike_28 hl (by decide) rfl (fun ls hl => ?_)
          refine lv_iconst (pc := 30) (v := iv 0) hx hb dX5_alike_30 rfl ?_
          refine lv_istore (lv' := [(7, .int (iv 0)), (6, .int (iv 1)), (0, .ref m0), (1, .int (iv q)), (2, .int (iv r)), (3, .int (iv (retn (LQ G q) (G 3 q.toNat)))), (4, .int (iv (bz fd))), (5, .int (iv t))]) (pc := 31) hx hb dX5_alike_31 hl (by decide) rfl (fun ls hl => ?_)
          have lp_33 : ∀ (k9 : Nat) (is : Bool) (u : Int) (hu : 0 ≤ u ∧ u ≤ retn (LQ G q) (G 3 q.toNat)) (hi : is = true ↔ ALLb (fun u9 => LQ G q (u9 + t) = LQ G r u9) u) , ((retn (LQ G q) (G 3 q.toNat) - u).toNat) < k9 → ∀ (H : Heap) (locs : List Loc) (ls : Array Slot), WP ε (wM ε m0 ad n G ++ R) H → WD ε (wM ε m0 ad n G ++ R) → WS ε s9.heap H locs → lv_has ls 8 [(0, .ref m0), (1, .int (iv q)), (2, .int (iv r)), (3, .int (iv (retn (LQ G q) (G 3 q.toNat)))), (4, .int (iv (bz fd))), (5, .int (iv t)), (6, .int (iv (bz is))), (7, .int (iv u))] → W p9 l e9 rm_c_m_alike s9 m9 a9 bl9 me9 c9 H locs 0 0 Q9 (F0 m9 33 ls []) := by
            intro k9
            induction k9 with
            | zero => intro is u hu hi h9; exact absurd h9 (Nat.not_lt_zero _)
            | succ k9 ih_33 =>
              intro is u hu hi h9 H locs ls hP hD hS hl
              refine lv_iload (pc := 33) hx hb dX5_alike_33 (lv_at hl 7 rfl) ?_
              refine lv_iload_n (pc := 35) hx hb dX5_alike_35 rfl (lv_at hl 3 rfl) ?_
              refine r_icmp_ge (pc := 36) (a := u) (b := retn (LQ G q) (G 3 q.toNat)) hx hb dX5_alike_36 (tgt := 75) (by decide) ⟨by omega, by omega⟩ ⟨by omega, by omega⟩ (fun c_36 => ?_) (fun c_36 => ?_)
              · have c_36_ := c_36
                refine lv_iload (pc := 75) hx hb dX5_alike_75 (lv_at hl 4 rfl) ?_
                refine lv_iload (pc := 77) hx hb dX5_alike_77 (lv_at hl 6 rfl) ?_
                refine lv_ior (pc := 79) (x := iv (bz fd)) (y := iv (bz is)) hx hb dX5_alike_79 ?_
                rw [bz_or]
                refine lv_istore (lv' := [(4, .int (iv (bz ((fd || is))))), (0, .ref m0), (1, .int (iv q)), (2, .int (iv r)), (3, .int (iv (retn (LQ G q) (G 3 q.toNat)))), (5, .int (iv t)), (6, .int (iv (bz is))), (7, .int (iv u))]) (pc := 80) hx hb dX5_alike_80 hl (by decide) rfl (fun ls hl => ?_)
                have hbk := ex_or (P := fun t9 => retn (LQ G q) (G 3 q.toNat) = retn (LQ G r) (G 3 r.toNat) ∧ ALLb (fun u9 => LQ G q (u9 + t9) = LQ G r u9) (retn (LQ G q) (G 3 q.toNat))) ht.1 hf (b := is) (hi.trans ⟨fun z => ⟨c_24, z.eq (by omega)⟩, fun z => z.2.eq (by omega)⟩)
                refine lv_iinc (v := iv (t + 1)) (lv' := [(5, .int (iv (t + 1))), (4, .int (iv (bz ((fd || is))))), (0, .ref m0), (1, .int (iv q)), (2, .int (iv r)), (3, .int (iv (retn (LQ G q) (G 3 q.toNat)))), (6, .int (iv (bz is))), (7, .int (iv u))]) (pc := 82) hx hb dX5_alike_82 hl (k := 5) rfl (iv_add _ _) (by decide) rfl (fun ls hl => ?_)
                refine lv_goto (pc := 85) (tgt := 12) hx hb dX5_alike_85 (by decide) ?_
                exact ih_12 ((fd || is)) (t + 1) (by omega) hbk (by omega) _ _ _ hP hD hS (lv_sub hl [2, 3, 4, 5, 1, 0] rfl)
              · have c_36_ := c_36
                have lp_66 : ∀ (bb : Bool) (hb9 : bb = true ↔ LQ G q (u + t) = LQ G r u), ∀ (H : Heap) (locs : List Loc) (ls : Array Slot), WP ε (wM ε m0 ad n G ++ R) H → WD ε (wM ε m0 ad n G ++ R) → WS ε s9.heap H locs → lv_has ls 8 [(0, .ref m0), (1, .int (iv q)), (2, .int (iv r)), (3, .int (iv (retn (LQ G q) (G 3 q.toNat)))), (4, .int (iv (bz fd))), (5, .int (iv t)), (6, .int (iv (bz is))), (7, .int (iv u))] → W p9 l e9 rm_c_m_alike s9 m9 a9 bl9 me9 c9 H locs 0 0 Q9 (F0 m9 66 ls [.int (iv (bz bb)), .int (iv (bz is))]) := by
                  intro bb hb9 H locs ls hP hD hS hl
                  refine lv_iand (pc := 66) (x := iv (bz is)) (y := iv (bz bb)) hx hb dX5_alike_66 ?_
                  rw [bz_and]
                  refine lv_istore (lv' := [(6, .int (iv (bz ((is && bb))))), (0, .ref m0), (1, .int (iv q)), (2, .int (iv r)), (3, .int (iv (retn (LQ G q) (G 3 q.toNat)))), (4, .int (iv (bz fd))), (5, .int (iv t)), (7, .int (iv u))]) (pc := 67) hx hb dX5_alike_67 hl (by decide) rfl (fun ls hl => ?_)
                  refine lv_iinc (v := iv (u + 1)) (lv' := [(7, .int (iv (u + 1))), (6, .int (iv (bz ((is && bb))))), (0, .ref m0), (1, .int (iv q)), (2, .int (iv r)), (3, .int (iv (retn (LQ G q) (G 3 q.toNat)))), (4, .int (iv (bz fd))), (5, .int (iv t))]) (pc := 69) hx hb dX5_alike_69 hl (k := 7) rfl (iv_add _ _) (by decide) rfl (fun ls hl => ?_)
                  refine lv_goto (pc := 72) (tgt := 33) hx hb dX5_alike_72 (by decide) ?_
                  exact ih_33 ((is && bb)) (u + 1) (by omega) (al_and (P := fun u9 => LQ G q (u9 + t) = LQ G r u9) (by omega) hi hb9) (by omega) _ _ _ hP hD hS (lv_sub hl [2, 3, 4, 5, 6, 7, 1, 0] rfl)
                refine lv_iload (pc := 39) hx hb dX5_alike_39 (lv_at hl 6 rfl) ?_
                refine lv_aload_n (pc := 41) hx hb dX5_alike_41 rfl (lv_at hl 0 rfl) ?_
                refine lv_iload_n (pc := 42) hx hb dX5_alike_42 rfl (lv_at hl 1 rfl) ?_
                refine lv_iload (pc := 43) hx hb dX5_alike_43 (lv_at hl 7 rfl) ?_
                refine lv_iload (pc := 45) hx hb dX5_alike_45 (lv_at hl 5 rfl) ?_
                refine r_iadd (pc := 47) (a := u) (b := t) hx hb dX5_alike_47 ?_
                refine c_callV (pc := 48) (y := yX5_isLight) (As := [.int (iv q), .int (iv (u + t))]) (rest := [.int (iv (bz is))]) hC hE hP hD hS hl.1 (c_m_isLight l ε m0 ad n G R (q) (u + t) hp hv ⟨by omega, by omega⟩) m_10_7 m_10_8 m_10_9 m_0_5 m_10_10 wM_o rfl hd_yX5_isLight rfl ⟨⟨by decide, by decide⟩, by decide, by decide⟩ (Nat.le_of_ble_eq_true rfl) rfl dX5_alike_48 kxN (fun v ws1 H locs hq hP hD hS => ?_)
                rw [hq.2] at hP hD
                rw [hq.1]
                dsimp only [Option.toList, List.cons_append, List.nil_append]
                refine lv_aload_n (pc := 51) hx hb dX5_alike_51 rfl (lv_at hl 0 rfl) ?_
                refine lv_iload_n (pc := 52) hx hb dX5_alike_52 rfl (lv_at hl 2 rfl) ?_
                refine lv_iload (pc := 53) hx hb dX5_alike_53 (lv_at hl 7 rfl) ?_
                refine c_callV (pc := 55) (y := yX5_isLight) (As := [.int (iv r), .int (iv u)]) (rest := [.int (iv (bz (LQ G q (u + t)))), .int (iv (bz is))]) hC hE hP hD hS hl.1 (c_m_isLight l ε m0 ad n G R (r) (u) hp2 hv2 ⟨by omega, by omega⟩) m_10_7 m_10_8 m_10_9 m_0_5 m_10_10 wM_o rfl hd_yX5_isLight rfl ⟨⟨by decide, by decide⟩, by decide, by decide⟩ (Nat.le_of_ble_eq_true rfl) rfl dX5_alike_55 kxN (fun v ws1 H locs hq hP hD hS => ?_)
                rw [hq.2] at hP hD
                rw [hq.1]
                dsimp only [Option.toList, List.cons_append, List.nil_append]
                refine r_icmp_ne (pc := 58) (a := bz (LQ G q (u + t))) (b := bz (LQ G r u)) hx hb dX5_alike_58 (tgt := 65) (by decide) (bz_rg _) (bz_rg _) (fun c_58 => ?_) (fun c_58 => ?_)
                · have c_58_ := c_58
                  refine lv_iconst (pc := 65) (v := iv 0) hx hb dX5_alike_65 rfl ?_
                  exact lp_66 false ⟨fun z => (by cases z), fun z => absurd (congrArg bz z) c_58⟩ _ _ _ hP hD hS (lv_sub hl [0, 1, 2, 3, 4, 5, 6, 7] rfl)
                · have c_58_ := c_58
                  refine lv_iconst (pc := 61) (v := iv 1) hx hb dX5_alike_61 rfl ?_
                  refine lv_goto (pc := 62) (tgt := 66) hx hb dX5_alike_62 (by decide) ?_
                  exact lp_66 true ⟨fun _ => bz_inj (by omega), fun _ => rfl⟩ _ _ _ hP hD hS (lv_sub hl [0, 1, 2, 3, 4, 5, 6, 7] rfl)
          exact lp_33 _ true 0 (by omega) ⟨fun _ => ALLb.zero (by omega), fun _ => rfl⟩ (Nat.lt_succ_self _) _ _ _ hP hD hS (lv_sub hl [2, 3, 4, 5, 6, 7, 1, 0] rfl)
  exact lp_12 _ false 0 (by omega) ⟨fun z => (by cases z), fun z => absurd z (EXb.zero (by omega))⟩ (Nat.lt_succ_self _) _ _ _ hP hD hS (lv_sub hl [3, 4, 5, 2, 1, 0] rfl)
end
section
/-! lamps: where a place is seen -/
def qrt (a b : Int) : Int := if 0 < a ∧ 0 ≤ b then 0 else if a ≤ 0 ∧ 0 < b then 1 else if a < 0 ∧ b ≤ 0 then 2 else 3
def ab (a : Int) : Int := if a < 0 then -a else a
def moreP (a b : Int) : Prop := (qrt a b % 2 = 0 → ab a ≤ ab b) ∧ (qrt a b % 2 ≠ 0 → ab b ≤ ab a)
noncomputable def sectP (a b : Int) : Int := if a = 0 ∧ b = 0 then -1 else 2 * qrt a b + bz (tb (moreP a b))
theorem qrt_bd (a b : Int) : 0 ≤ qrt a b ∧ qrt a b ≤ 3 := by unfold qrt; repeat' split <;> omega
theorem sectP_bd (a b : Int) : -1 ≤ sectP a b ∧ sectP a b ≤ 7 := by
  unfold sectP
  have h1 := qrt_bd a b
  have h2 := bz_01 (tb (moreP a b))
  split <;> omega
/-- the lamp i of the reference can be seen from x, y -/
def SEES (G : Nat → Nat → Int) (i x y : Int) : Prop := ((-(G 8 i.toNat) ≤ x - G 4 i.toNat ∧ x - G 4 i.toNat ≤ G 8 i.toNat) ∧ -(G 8 i.toNat) ≤ y - G 5 i.toNat ∧ y - G 5 i.toNat ≤ G 8 i.toNat) ∧
  (sectP (x - G 4 i.toNat) (y - G 5 i.toNat) < 0 ∨ (G 9 i.toNat) / 2 ^ (sectP (x - G 4 i.toNat) (y - G 5 i.toNat)).toNat % 2 = 1)
/-- a lamp's numbers are in their ranges -/
def LV (n : Nat → Int) (G : Nat → Nat → Int) (i : Int) : Prop := (0 ≤ G 4 i.toNat ∧ G 4 i.toNat ≤ 31) ∧ (0 ≤ G 5 i.toNat ∧ G 5 i.toNat ≤ 31) ∧ (0 ≤ G 6 i.toNat ∧ G 6 i.toNat < n 1) ∧ (0 ≤ G 7 i.toNat ∧ G 7 i.toNat ≤ 59) ∧ (1 ≤ G 8 i.toNat ∧ G 8 i.toNat ≤ 40) ∧ (1 ≤ G 9 i.toNat ∧ G 9 i.toNat ≤ 255) ∧ (G 10 i.toNat = 0 ∨ G 10 i.toNat = 1)
def VPat (n : Nat → Int) (G : Nat → Nat → Int) : Prop := (0 ≤ n 1 ∧ n 1 ≤ 20) ∧ ∀ q : Int, 0 ≤ q → q < n 1 → PQ G q
def VLam (n : Nat → Int) (G : Nat → Nat → Int) : Prop := (0 ≤ n 2 ∧ n 2 ≤ 12) ∧ ∀ i : Int, 0 ≤ i → i < n 2 → LV n G i
theorem VPat.q {n : Nat → Int} {G : Nat → Nat → Int} (h : VPat n G) {q : Int} (h1 : 0 ≤ q) (h2 : q < n 1) : PQ G q := h.2 q h1 h2
theorem VLam.i {n : Nat → Int} {G : Nat → Nat → Int} (h : VLam n G) {q : Int} (h1 : 0 ≤ q) (h2 : q < n 2) : LV n G q := h.2 q h1 h2
theorem iv_sshr {a k : Int} (ha : 0 ≤ a ∧ a < 2147483648) (hk : 0 ≤ k ∧ k < 32) : iv a >>> (iv k &&& 31) = iv (a / 2 ^ k.toNat) := by
  obtain ⟨ha1, ha2⟩ := ha
  obtain ⟨hk1, hk2⟩ := hk
  have e1 : a = ((a.toNat : Nat) : Int) := by omega
  have e2 : k = ((k.toNat : Nat) : Int) := by omega
  have h3 : ∀ j, j < 32 → ((nI j &&& 31).toBitVec.smod 32).toNat = j := by decide
  rw [e1, e2, iv_nat, iv_nat, pk_shrN (by omega) (nI k.toNat &&& 31) k.toNat (h3 _ (by omega)), ← iv_nat]
  congr 1
theorem iv_and1 {a : Int} (ha : 0 ≤ a ∧ a < 2147483648) : iv a &&& iv 1 = iv (a % 2) := by
  obtain ⟨ha1, ha2⟩ := ha
  have e1 : a = ((a.toNat : Nat) : Int) := by omega
  have h := pk_andN (n := a.toNat) (by omega) (m := 1) 1 (by decide)
  rw [e1, iv_nat, show iv 1 = 1 by decide, h, ← iv_nat]
  congr 1
theorem tb_no {P : Prop} (h : tb P = false) : ¬ P := fun z => by rw [tb_t z] at h; cases h
noncomputable def CNT (P : Int → Prop) : Nat → Int
  | 0 => 0
  | t + 1 => CNT P t + bz (tb (P t))
theorem CNT.succ {P : Int → Prop} {k : Int} (h : 0 ≤ k) : CNT P (k + 1).toNat = CNT P k.toNat + bz (tb (P k)) := by
  rw [show (k + 1).toNat = k.toNat + 1 by omega]
  show CNT P k.toNat + bz (tb (P k.toNat)) = _
  rw [show ((k.toNat : Nat) : Int) = k by omega]
theorem CNT.bd (P : Int → Prop) : ∀ t : Nat, 0 ≤ CNT P t ∧ CNT P t ≤ t := by
  intro t
  induction t with
  | zero => exact ⟨Int.le_refl 0, Int.le_refl 0⟩
  | succ t ih =>
    have h := bz_01 (tb (P t))
    show 0 ≤ CNT P t + bz (tb (P t)) ∧ CNT P t + bz (tb (P t)) ≤ _
    omega
/-- from the place k of 1024 both can be seen -/
def BOTHS (G : Nat → Nat → Int) (i j k : Int) : Prop := SEES G i (k % 32) (k / 32) ∧ SEES G j (k % 32) (k / 32)
noncomputable def COMM (G : Nat → Nat → Int) (i j : Int) : Int := CNT (BOTHS G i j) 1024
/-- the lamp i shines in the second t -/
def ON (G : Nat → Nat → Int) (i t : Int) : Bool := decide (G 10 i.toNat = 0) && LQ G (G 6 i.toNat) (t + G 7 i.toNat)
def COULD (G : Nat → Nat → Int) (q i fr many : Int) : Prop := EXb (fun t => ALLb (fun u => LQ G q (t + u) = ON G i (fr + u)) many) (G 3 q.toNat)
def NV (G : Nat → Nat → Int) (i : Int) : Int := 32 * i + (if G 10 i.toNat = 0 then G 6 i.toNat else 31)
/-- the sum over the first k of what each lamp gives with those ahead of it -/
noncomputable def CLS (P : Int → Int → Prop) : Nat → Int
  | 0 => 0
  | k + 1 => CLS P k + CNT (P k) k
theorem CLS.succ {P : Int → Int → Prop} {k : Int} (h : 0 ≤ k) : CLS P (k + 1).toNat = CLS P k.toNat + CNT (P k) k.toNat := by
  rw [show (k + 1).toNat = k.toNat + 1 by omega]
  show CLS P k.toNat + CNT (P k.toNat) k.toNat = _
  rw [show ((k.toNat : Nat) : Int) = k by omega]
theorem CLS.bd (P : Int → Int → Prop) : ∀ k : Nat, 0 ≤ CLS P k ∧ CLS P k ≤ k * k := by
  intro k
  induction k with
  | zero => exact ⟨Int.le_refl 0, Int.le_refl 0⟩
  | succ k ih =>
    have h := CNT.bd (P k) k
    have e : ((k + 1 : Nat) : Int) * ((k + 1 : Nat) : Int) = k * k + k + k + 1 := by
      rw [Int.natCast_add, Int.natCast_one, Int.add_mul, Int.mul_add, Int.mul_one, Int.one_mul]
      omega
    show 0 ≤ CLS P k + CNT (P k) k ∧ CLS P k + CNT (P k) k ≤ _
    rw [e]
    generalize (k : Int) * k = z at ih ⊢
    omega
/-- the lamps k and j clash -/
def CLASH (G : Nat → Nat → Int) (k j : Int) : Prop := AK (LQ G (G 6 k.toNat)) (LQ G (G 6 j.toNat)) (G 3 (G 6 k.toNat).toNat) (G 3 (G 6 j.toNat).toNat) ∧ 0 < COMM G k j
/-- which of the first t: NONE, the one, SEVERAL -/
noncomputable def TK (P : Int → Prop) : Nat → Int
  | 0 => -1
  | t + 1 => if tb (P t) = true then (if TK P t = -1 then (t : Int) else -2) else TK P t
theorem TK.succ {P : Int → Prop} {k : Int} (h : 0 ≤ k) : TK P (k + 1).toNat = if tb (P k) = true then (if TK P k.toNat = -1 then k else -2) else TK P k.toNat := by
  rw [show (k + 1).toNat = k.toNat + 1 by omega]
  show (if tb (P k.toNat) = true then (if TK P k.toNat = -1 then ((k.toNat : Nat) : Int) else -2) else TK P k.toNat) = _
  rw [show ((k.toNat : Nat) : Int) = k by omega]
theorem TK.bd (P : Int → Prop) : ∀ t : Nat, -2 ≤ TK P t ∧ TK P t ≤ t := by
  intro t
  induction t with
  | zero => show -2 ≤ (-1 : Int) ∧ (-1 : Int) ≤ ((0 : Nat) : Int); omega
  | succ t ih =>
    unfold TK
    split
    · split <;> omega
    · omega
/-- the light of the lamp i could be the lamp k of the chart ch -/
def CANB (G : Nat → Nat → Int) (ch x y i fr many k : Int) : Prop := (0 ≤ G 13 (12 * ch + k).toNat ∧ SEES G k x y) ∧ COULD G (G 13 (12 * ch + k).toNat) i fr many
def VCha (n : Nat → Int) (G : Nat → Nat → Int) : Prop := (0 ≤ n 4 ∧ n 4 ≤ 10) ∧ ∀ ch : Int, 0 ≤ ch → ch < n 4 → (0 ≤ G 12 ch.toNat ∧ G 12 ch.toNat ≤ n 3) ∧ ∀ k : Int, 0 ≤ k → k < 12 → -1 ≤ G 13 (12 * ch + k).toNat ∧ G 13 (12 * ch + k).toNat < n 1
def NOK (n : Nat → Int) (z : Int) : Prop := (0 ≤ z ∧ z / 32 < n 2) ∧ (z % 32 = 31 ∨ z % 32 < n 1)
def VNot (n : Nat → Int) (G : Nat → Nat → Int) : Prop := (0 ≤ n 3 ∧ n 3 ≤ 512) ∧ ∀ j : Int, 0 ≤ j → j < n 3 → NOK n (G 11 j.toNat)
def VDra (n : Nat → Int) (G : Nat → Nat → Int) : Prop := (0 ≤ n 0 ∧ n 0 ≤ 6) ∧ ∀ k : Int, 0 ≤ k → k < n 0 → 1 ≤ G 0 k.toNat ∧ G 0 k.toNat ≤ 9
end
section
abbrev rm_c_m_sectorOf : Room := { frames := 0, cells := 0, slots := 0, locals := 0 }
set_option maxRecDepth 100000 in
set_option maxHeartbeats 4000000 in
theorem c_m_sectorOf (l : Launch) (ε : EV) (m0 : Nat) (ad : Nat → Nat) (n : Nat → Int) (G : Nat → Nat → Int) (R : va_W) (i x y : Int) (hi : 0 ≤ i ∧ i < 12) (hv : LV n G i) (hxy : (0 ≤ x ∧ x ≤ 31) ∧ 0 ≤ y ∧ y ≤ 31) : CT l yX5_sectorOf cX5_sectorOf 10 (some .int) rm_c_m_sectorOf ε [.ref m0, .int (iv i), .int (iv x), .int (iv y)] (wM ε m0 ad n G ++ R) (fun v w => v = some (.int (iv (sectP (x - G 4 i.toNat) (y - G 5 i.toNat)))) ∧ w = wM ε m0 ad n G ++ R) NX := by
  refine CT.intro (by decide +kernel) (Nat.le_of_ble_eq_true rfl) ?_
  intro p9 e9 s9 m9 a9 bl9 me9 c9 ls Q9 hC hE hP hD hl hQ
  have hx := hC.1
  have hb := hC.2.1
  have hK := hE.K
  have hS : WS ε s9.heap s9.heap [] := va_S.rf
  have hl : lv_has ls 10 [(0, .ref m0), (1, .int (iv i)), (2, .int (iv x)), (3, .int (iv y))] := hl
  obtain ⟨H, hH⟩ : ∃ H, H = s9.heap := ⟨_, rfl⟩
  obtain ⟨locs, hlo⟩ : ∃ z : List Loc, z = [] := ⟨_, rfl⟩
  rw [← hH] at hP ⊢
  have hS : WS ε s9.heap H locs := by rw [hH, hlo]; exact hS
  rw [← hlo]
  clear hH hlo
  obtain ⟨⟨h41, h42⟩, ⟨h51, h52⟩, ⟨h61, h62⟩, ⟨h71, h72⟩, ⟨h81, h82⟩, ⟨h91, h92⟩, h10⟩ := hv
  refine lv_iload_n (pc := 0) hx hb dX5_sectorOf_0 rfl (lv_at hl 2 rfl) ?_
  refine lv_aload_n (pc := 1) hx hb dX5_sectorOf_1 rfl (lv_at hl 0 rfl) ?_
  refine r_get (pc := 2) hC hK hP wM_o (hc := rfl) (fun w h => wt_1 w h) 7 (by decide) m_1_21 (fun _ h => h) (v := .ref (ad 4)) rfl dX5_sectorOf_2 ?_
  refine lv_iload_n (pc := 5) hx hb dX5_sectorOf_5 rfl (lv_at hl 1 rfl) ?_
  refine r_iald (pc := 6) (z := i) hC hK hP wM_4 ⟨by omega, by omega, by decide⟩ dX5_sectorOf_6 ?_
  refine r_isub (pc := 7) (a := x) (b := G 4 i.toNat) hx hb dX5_sectorOf_7 ?_
  refine lv_istore (lv' := [(4, .int (iv (x - (G 4 i.toNat)))), (0, .ref m0), (1, .int (iv i)), (2, .int (iv x)), (3, .int (iv y))]) (pc := 8) hx hb dX5_sectorOf_8 hl (by decide) rfl (fun ls hl => ?_)
  refine lv_iload_n (pc := 10) hx hb dX5_sectorOf_10 rfl (lv_at hl 4 rfl) ?_
  refine lv_aload_n (pc := 11) hx hb dX5_sectorOf_11 rfl (lv_at hl 1 rfl) ?_
  refine r_get (pc := 12) hC hK hP wM_o (hc := rfl) (fun w h => wt_1 w h) 8 (by decide) m_1_22 (fun _ h => h) (v := .ref (ad 5)) rfl dX5_sectorOf_12 ?_
  refine lv_iload_n (pc := 15) hx hb dX5_sectorOf_15 rfl (lv_at hl 2 rfl) ?_
  refine r_iald (pc := 16) (z := i) hC hK hP wM_5 ⟨by omega, by omega, by decide⟩ dX5_sectorOf_16 ?_
  refine r_isub (pc := 17) (a := y) (b := G 5 i.toNat) hx hb dX5_sectorOf_17 ?_
  refine lv_istore (lv' := [(5, .int (iv (y - (G 5 i.toNat)))), (4, .int (iv (x - (G 4 i.toNat)))), (0, .ref m0), (1, .int (iv i)), (2, .int (iv x)), (3, .int (iv y))]) (pc := 18) hx hb dX5_sectorOf_18 hl (by decide) rfl (fun ls hl => ?_)
  have lp_20 : ∀ (A : Int) (B : Int) (hA : A = x - G 4 i.toNat) (hB : B = y - G 5 i.toNat), ∀ (H : Heap) (locs : List Loc) (ls : Array Slot), WP ε (wM ε m0 ad n G ++ R) H → WD ε (wM ε m0 ad n G ++ R) → WS ε s9.heap H locs → lv_has ls 10 [(0, .ref m0), (1, .int (iv i)), (2, .int (iv x)), (3, .int (iv y)), (4, .int (iv A)), (5, .int (iv B))] → W p9 l e9 rm_c_m_sectorOf s9 m9 a9 bl9 me9 c9 H locs 0 0 Q9 (F0 m9 20 ls []) := by
    intro A B hA hB H locs ls hP hD hS hl
    refine lv_iload (pc := 20) hx hb dX5_sectorOf_20 (lv_at hl 4 rfl) ?_
    refine r_if_ne (pc := 22) (a := A) hx hb dX5_sectorOf_22 (tgt := 32) (by decide) ⟨by omega, by omega⟩ (fun c_22 => ?_) (fun c_22 => ?_)
    · have c_22_ := c_22
      have hn0 : ¬ (A = 0 ∧ B = 0) := by omega
      have lp_75 : ∀ (qd : Int) (hq : qd = qrt A B), ∀ (H : Heap) (locs : List Loc) (ls : Array Slot), WP ε (wM ε m0 ad n G ++ R) H → WD ε (wM ε m0 ad n G ++ R) → WS ε s9.heap H locs → lv_has ls 10 [(0, .ref m0), (1, .int (iv i)), (2, .int (iv x)), (3, .int (iv y)), (4, .int (iv A)), (5, .int (iv B))] → W p9 l e9 rm_c_m_sectorOf s9 m9 a9 bl9 me9 c9 H locs 0 0 Q9 (F0 m9 75 ls [.int (iv qd)]) := by
        intro qd hq H locs ls hP hD hS hl
        refine lv_istore (lv' := [(6, .int (iv qd)), (0, .ref m0), (1, .int (iv i)), (2, .int (iv x)), (3, .int (iv y)), (4, .int (iv A)), (5, .int (iv B))]) (pc := 75) hx hb dX5_sectorOf_75 hl (by decide) rfl (fun ls hl => ?_)
        have hqb := qrt_bd A B
        rw [← hq] at hqb
        have lp_90 : ∀ (wd : Int) (hw : wd = ab A), ∀ (H : Heap) (locs : List Loc) (ls : Array Slot), WP ε (wM ε m0 ad n G ++ R) H → WD ε (wM ε m0 ad n G ++ R) → WS ε s9.heap H locs → lv_has ls 10 [(0, .ref m0), (1, .int (iv i)), (2, .int (iv x)), (3, .int (iv y)), (4, .int (iv A)), (5, .int (iv B)), (6, .int (iv qd))] → W p9 l e9 rm_c_m_sectorOf s9 m9 a9 bl9 me9 c9 H locs 0 0 Q9 (F0 m9 90 ls [.int (iv wd)]) := by
          intro wd hw H locs ls hP hD hS hl
          refine lv_istore (lv' := [(7, .int (iv wd)), (0, .ref m0), (1, .int (iv i)), (2, .int (iv x)), (3, .int (iv y)), (4, .int (iv A)), (5, .int (iv B)), (6, .int (iv qd))]) (pc := 90) hx hb dX5_sectorOf_90 hl (by decide) rfl (fun ls hl => ?_)
          have lp_105 : ∀ (hg : Int) (hh : hg = ab B), ∀ (H : Heap) (locs : List Loc) (ls : Array Slot), WP ε (wM ε m0 ad n G ++ R) H → WD ε (wM ε m0 ad n G ++ R) → WS ε s9.heap H locs → lv_has ls 10 [(0, .ref m0), (1, .int (iv i)), (2, .int (iv x)), (3, .int (iv y)), (4, .int (iv A)), (5, .int (iv B)), (6, .int (iv qd)), (7, .int (iv wd))] → W p9 l e9 rm_c_m_sectorOf s9 m9 a9 bl9 me9 c9 H locs 0 0 Q9 (F0 m9 105 ls [.int (iv hg)]) := by
            intro hg hh H locs ls hP hD hS hl
            refine lv_istore (lv' := [(8, .int (iv hg)), (0, .ref m0), (1, .int (iv i)), (2, .int (iv x)), (3, .int (iv y)), (4, .int (iv A)), (5, .int (iv B)), (6, .int (iv qd)), (7, .int (iv wd))]) (pc := 105) hx hb dX5_sectorOf_105 hl (by decide) rfl (fun ls hl => ?_)
            have hwb : 0 ≤ wd ∧ wd ≤ 31 := by rw [hw]; unfold ab; split <;> omega
            have hgb : 0 ≤ hg ∧ hg ≤ 31 := by rw [hh]; unfold ab; split <;> omega
            have hmp : moreP A B ↔ (qd % 2 = 0 → wd ≤ hg) ∧ (qd % 2 ≠ 0 → hg ≤ wd) := by unfold moreP; rw [← hq, ← hw, ← hh]
            have lp_141 : ∀ (mo : Bool) (hm : mo = true ↔ moreP A B), ∀ (H : Heap) (locs : List Loc) (ls : Array Slot), WP ε (wM ε m0 ad n G ++ R) H → WD ε (wM ε m0 ad n G ++ R) → WS ε s9.heap H locs → lv_has ls 10 [(0, .ref m0), (1, .int (iv i)), (2, .int (iv x)), (3, .int (iv y)), (4, .int (iv A)), (5, .int (iv B)), (6, .int (iv qd)), (7, .int (iv wd)), (8, .int (iv hg))] → W p9 l e9 rm_c_m_sectorOf s9 m9 a9 bl9 me9 c9 H locs 0 0 Q9 (F0 m9 141 ls [.int (iv (bz mo))]) := by
              intro mo hm H locs ls hP hD hS hl
              refine lv_istore (lv' := [(9, .int (iv (bz mo))), (0, .ref m0), (1, .int (iv i)), (2, .int (iv x)), (3, .int (iv y)), (4, .int (iv A)), (5, .int (iv B)), (6, .int (iv qd)), (7, .int (iv wd)), (8, .int (iv hg))]) (pc := 141) hx hb dX5_sectorOf_141 hl (by decide) rfl (fun ls hl => ?_)
              refine lv_iconst (pc := 143) (v := iv 2) hx hb dX5_sectorOf_143 rfl ?_
              refine lv_iload (pc := 144) hx hb dX5_sectorOf_144 (lv_at hl 7 rfl) ?_
              refine r_imul (pc := 146) (a := 2) (b := qd) hx hb dX5_sectorOf_146 ?_
              refine lv_iload (pc := 147) hx hb dX5_sectorOf_147 (lv_at hl 0 rfl) ?_
              refine r_if_b0 (pc := 149) (b := mo) hx hb dX5_sectorOf_149 (tgt := 156) (by decide)  (fun c_149 => ?_) (fun c_149 => ?_)
              · have c_149_ := c_149
                refine lv_iconst (pc := 156) (v := iv 0) hx hb dX5_sectorOf_156 rfl ?_
                refine r_iadd (pc := 157) (a := 2 * qd) (b := 0) hx hb dX5_sectorOf_157 ?_
                have hres : (2 * qd) + 0 = sectP (x - G 4 i.toNat) (y - G 5 i.toNat) := by
                 rw [← hA, ← hB]
                 unfold sectP
                 rw [if_neg hn0, ← hq, ← tb_of hm, c_149]
                 rfl
                refine c_iret (pc := 158) hC hQ hP hD hS (by decide) (by decide) dX5_sectorOf_158 ?_
                exact ⟨congrArg (fun z => some (Value.int (iv z))) hres, rfl⟩
              · have c_149_ := c_149
                refine lv_iconst (pc := 152) (v := iv 1) hx hb dX5_sectorOf_152 rfl ?_
                refine lv_goto (pc := 153) (tgt := 157) hx hb dX5_sectorOf_153 (by decide) ?_
                refine r_iadd (pc := 157) (a := 2 * qd) (b := 1) hx hb dX5_sectorOf_157 ?_
                have hres : (2 * qd) + 1 = sectP (x - G 4 i.toNat) (y - G 5 i.toNat) := by
                 rw [← hA, ← hB]
                 unfold sectP
                 rw [if_neg hn0, ← hq, ← tb_of hm, c_149]
                 rfl
                refine c_iret (pc := 158) hC hQ hP hD hS (by decide) (by decide) dX5_sectorOf_158 ?_
                exact ⟨congrArg (fun z => some (Value.int (iv z))) hres, rfl⟩
            refine lv_iload (pc := 107) hx hb dX5_sectorOf_107 (lv_at hl 7 rfl) ?_
            refine lv_iconst (pc := 109) (v := iv 2) hx hb dX5_sectorOf_109 rfl ?_
            refine r_irem (pc := 110) (a := qd) (b := 2) hx hb dX5_sectorOf_110 ⟨⟨by omega, by omega⟩, by omega, by omega⟩ ?_
            have hm_110 := Int.emod_nonneg qd (show 2 ≠ 0 by omega)
            have hn_110 := Int.emod_lt_of_pos qd (show 0 < 2 by omega)
            refine r_if_ne (pc := 111) (a := qd % 2) hx hb dX5_sectorOf_111 (tgt := 129) (by decide) ⟨by omega, by omega⟩ (fun c_111 => ?_) (fun c_111 => ?_)
            · have c_111_ := c_111
              refine lv_iload (pc := 129) hx hb dX5_sectorOf_129 (lv_at hl 8 rfl) ?_
              refine lv_iload (pc := 131) hx hb dX5_sectorOf_131 (lv_at hl 0 rfl) ?_
              refine r_icmp_lt (pc := 133) (a := wd) (b := hg) hx hb dX5_sectorOf_133 (tgt := 140) (by decide) ⟨by omega, by omega⟩ ⟨by omega, by omega⟩ (fun c_133 => ?_) (fun c_133 => ?_)
              · have c_133_ := c_133
                refine lv_iconst (pc := 140) (v := iv 0) hx hb dX5_sectorOf_140 rfl ?_
                exact lp_141 false ⟨fun z => (by cases z), fun z => (by obtain ⟨z1, z2⟩ := hmp.mp z; omega)⟩ _ _ _ hP hD hS (lv_sub hl [1, 2, 3, 4, 5, 6, 7, 8, 0] rfl)
              · have c_133_ := c_133
                refine lv_iconst (pc := 136) (v := iv 1) hx hb dX5_sectorOf_136 rfl ?_
                refine lv_goto (pc := 137) (tgt := 141) hx hb dX5_sectorOf_137 (by decide) ?_
                exact lp_141 true ⟨fun _ => hmp.mpr ⟨fun z => (by omega), fun z => (by omega)⟩, fun _ => rfl⟩ _ _ _ hP hD hS (lv_sub hl [1, 2, 3, 4, 5, 6, 7, 8, 0] rfl)
            · have c_111_ := c_111
              refine lv_iload (pc := 114) hx hb dX5_sectorOf_114 (lv_at hl 0 rfl) ?_
              refine lv_iload (pc := 116) hx hb dX5_sectorOf_116 (lv_at hl 8 rfl) ?_
              refine r_icmp_lt (pc := 118) (a := hg) (b := wd) hx hb dX5_sectorOf_118 (tgt := 125) (by decide) ⟨by omega, by omega⟩ ⟨by omega, by omega⟩ (fun c_118 => ?_) (fun c_118 => ?_)
              · have c_118_ := c_118
                refine lv_iconst (pc := 125) (v := iv 0) hx hb dX5_sectorOf_125 rfl ?_
                refine lv_goto (pc := 126) (tgt := 141) hx hb dX5_sectorOf_126 (by decide) ?_
                exact lp_141 false ⟨fun z => (by cases z), fun z => (by obtain ⟨z1, z2⟩ := hmp.mp z; omega)⟩ _ _ _ hP hD hS (lv_sub hl [1, 2, 3, 4, 5, 6, 7, 8, 0] rfl)
              · have c_118_ := c_118
                refine lv_iconst (pc := 121) (v := iv 1) hx hb dX5_sectorOf_121 rfl ?_
                refine lv_goto (pc := 122) (tgt := 141) hx hb dX5_sectorOf_122 (by decide) ?_
                exact lp_141 true ⟨fun _ => hmp.mpr ⟨fun z => (by omega), fun z => (by omega)⟩, fun _ => rfl⟩ _ _ _ hP hD hS (lv_sub hl [1, 2, 3, 4, 5, 6, 7, 8, 0] rfl)
          refine lv_iload (pc := 92) hx hb dX5_sectorOf_92 (lv_at hl 6 rfl) ?_
          refine r_if_ge (pc := 94) (a := B) hx hb dX5_sectorOf_94 (tgt := 103) (by decide) ⟨by omega, by omega⟩ (fun c_94 => ?_) (fun c_94 => ?_)
          · have c_94_ := c_94
            refine lv_iload (pc := 103) hx hb dX5_sectorOf_103 (lv_at hl 6 rfl) ?_
            exact lp_105 B (by unfold ab; split <;> omega) _ _ _ hP hD hS (lv_sub hl [1, 2, 3, 4, 5, 6, 7, 0] rfl)
          · have c_94_ := c_94
            refine lv_iload (pc := 97) hx hb dX5_sectorOf_97 (lv_at hl 6 rfl) ?_
            refine r_ineg (pc := 99) (a := B) hx hb dX5_sectorOf_99 ?_
            refine lv_goto (pc := 100) (tgt := 105) hx hb dX5_sectorOf_100 (by decide) ?_
            exact lp_105 (-B) (by unfold ab; split <;> omega) _ _ _ hP hD hS (lv_sub hl [1, 2, 3, 4, 5, 6, 7, 0] rfl)
        refine lv_iload (pc := 77) hx hb dX5_sectorOf_77 (lv_at hl 5 rfl) ?_
        refine r_if_ge (pc := 79) (a := A) hx hb dX5_sectorOf_79 (tgt := 88) (by decide) ⟨by omega, by omega⟩ (fun c_79 => ?_) (fun c_79 => ?_)
        · have c_79_ := c_79
          refine lv_iload (pc := 88) hx hb dX5_sectorOf_88 (lv_at hl 5 rfl) ?_
          exact lp_90 A (by unfold ab; split <;> omega) _ _ _ hP hD hS (lv_sub hl [1, 2, 3, 4, 5, 6, 0] rfl)
        · have c_79_ := c_79
          refine lv_iload (pc := 82) hx hb dX5_sectorOf_82 (lv_at hl 5 rfl) ?_
          refine r_ineg (pc := 84) (a := A) hx hb dX5_sectorOf_84 ?_
          refine lv_goto (pc := 85) (tgt := 90) hx hb dX5_sectorOf_85 (by decide) ?_
          exact lp_90 (-A) (by unfold ab; split <;> omega) _ _ _ hP hD hS (lv_sub hl [1, 2, 3, 4, 5, 6, 0] rfl)
      refine lv_iload (pc := 32) hx hb dX5_sectorOf_32 (lv_at hl 4 rfl) ?_
      refine r_if_le (pc := 34) (a := A) hx hb dX5_sectorOf_34 (tgt := 46) (by decide) ⟨by omega, by omega⟩ (fun c_34 => ?_) (fun c_34 => ?_)
      · have c_34_ := c_34
        refine lv_iload (pc := 46) hx hb dX5_sectorOf_46 (lv_at hl 4 rfl) ?_
        refine r_if_gt (pc := 48) (a := A) hx hb dX5_sectorOf_48 (tgt := 60) (by decide) ⟨by omega, by omega⟩ (fun c_48 => ?_) (fun c_48 => ?_)
        · have c_48_ := c_48
          refine lv_iload (pc := 60) hx hb dX5_sectorOf_60 (lv_at hl 4 rfl) ?_
          refine r_if_ge (pc := 62) (a := A) hx hb dX5_sectorOf_62 (tgt := 74) (by decide) ⟨by omega, by omega⟩ (fun c_62 => ?_) (fun c_62 => ?_)
          · have c_62_ := c_62
            refine lv_iconst (pc := 74) (v := iv 3) hx hb dX5_sectorOf_74 rfl ?_
            exact lp_75 3 (by unfold qrt; repeat' split <;> omega) _ _ _ hP hD hS (lv_sub hl [0, 1, 2, 3, 4, 5] rfl)
          · have c_62_ := c_62
            refine lv_iload (pc := 65) hx hb dX5_sectorOf_65 (lv_at hl 5 rfl) ?_
            refine r_if_gt (pc := 67) (a := B) hx hb dX5_sectorOf_67 (tgt := 74) (by decide) ⟨by omega, by omega⟩ (fun c_67 => ?_) (fun c_67 => ?_)
            · have c_67_ := c_67
              refine lv_iconst (pc := 74) (v := iv 3) hx hb dX5_sectorOf_74 rfl ?_
              exact lp_75 3 (by unfold qrt; repeat' split <;> omega) _ _ _ hP hD hS (lv_sub hl [0, 1, 2, 3, 4, 5] rfl)
            · have c_67_ := c_67
              refine lv_iconst (pc := 70) (v := iv 2) hx hb dX5_sectorOf_70 rfl ?_
              refine lv_goto (pc := 71) (tgt := 75) hx hb dX5_sectorOf_71 (by decide) ?_
              exact lp_75 2 (by unfold qrt; repeat' split <;> omega) _ _ _ hP hD hS (lv_sub hl [0, 1, 2, 3, 4, 5] rfl)
        · have c_48_ := c_48
          refine lv_iload (pc := 51) hx hb dX5_sectorOf_51 (lv_at hl 5 rfl) ?_
          refine r_if_le (pc := 53) (a := B) hx hb dX5_sectorOf_53 (tgt := 60) (by decide) ⟨by omega, by omega⟩ (fun c_53 => ?_) (fun c_53 => ?_)
          · have c_53_ := c_53
            refine lv_iload (pc := 60) hx hb dX5_sectorOf_60 (lv_at hl 4 rfl) ?_
            refine r_if_ge (pc := 62) (a := A) hx hb dX5_sectorOf_62 (tgt := 74) (by decide) ⟨by omega, by omega⟩ (fun c_62 => ?_) (fun c_62 => ?_)
            · have c_62_ := c_62
              refine lv_iconst (pc := 74) (v := iv 3) hx hb dX5_sectorOf_74 rfl ?_
              exact lp_75 3 (by unfold qrt; repeat' split <;> omega) _ _ _ hP hD hS (lv_sub hl [0, 1, 2, 3, 4, 5] rfl)
            · have c_62_ := c_62
              refine lv_iload (pc := 65) hx hb dX5_sectorOf_65 (lv_at hl 5 rfl) ?_
              refine r_if_gt (pc := 67) (a := B) hx hb dX5_sectorOf_67 (tgt := 74) (by decide) ⟨by omega, by omega⟩ (fun c_67 => ?_) (fun c_67 => ?_)
              · have c_67_ := c_67
                refine lv_iconst (pc := 74) (v := iv 3) hx hb dX5_sectorOf_74 rfl ?_
                exact lp_75 3 (by unfold qrt; repeat' split <;> omega) _ _ _ hP hD hS (lv_sub hl [0, 1, 2, 3, 4, 5] rfl)
              · have c_67_ := c_67
                refine lv_iconst (pc := 70) (v := iv 2) hx hb dX5_sectorOf_70 rfl ?_
                refine lv_goto (pc := 71) (tgt := 75) hx hb dX5_sectorOf_71 (by decide) ?_
                exact lp_75 2 (by unfold qrt; repeat' split <;> omega) _ _ _ hP hD hS (lv_sub hl [0, 1, 2, 3, 4, 5] rfl)
          · have c_53_ := c_53
            refine lv_iconst (pc := 56) (v := iv 1) hx hb dX5_sectorOf_56 rfl ?_
            refine lv_goto (pc := 57) (tgt := 75) hx hb dX5_sectorOf_57 (by decide) ?_
            exact lp_75 1 (by unfold qrt; repeat' split <;> omega) _ _ _ hP hD hS (lv_sub hl [0, 1, 2, 3, 4, 5] rfl)
      · have c_34_ := c_34
        refine lv_iload (pc := 37) hx hb dX5_sectorOf_37 (lv_at hl 5 rfl) ?_
        refine r_if_lt (pc := 39) (a := B) hx hb dX5_sectorOf_39 (tgt := 46) (by decide) ⟨by omega, by omega⟩ (fun c_39 => ?_) (fun c_39 => ?_)
        · have c_39_ := c_39
          refine lv_iload (pc := 46) hx hb dX5_sectorOf_46 (lv_at hl 4 rfl) ?_
          refine r_if_gt (pc := 48) (a := A) hx hb dX5_sectorOf_48 (tgt := 60) (by decide) ⟨by omega, by omega⟩ (fun c_48 => ?_) (fun c_48 => ?_)
          · have c_48_ := c_48
            refine lv_iload (pc := 60) hx hb dX5_sectorOf_60 (lv_at hl 4 rfl) ?_
            refine r_if_ge (pc := 62) (a := A) hx hb dX5_sectorOf_62 (tgt := 74) (by decide) ⟨by omega, by omega⟩ (fun c_62 => ?_) (fun c_62 => ?_)
            · have c_62_ := c_62
              refine lv_iconst (pc := 74) (v := iv 3) hx hb dX5_sectorOf_74 rfl ?_
              exact lp_75 3 (by unfold qrt; repeat' split <;> omega) _ _ _ hP hD hS (lv_sub hl [0, 1, 2, 3, 4, 5] rfl)
            · have c_62_ := c_62
              refine lv_iload (pc := 65) hx hb dX5_sectorOf_65 (lv_at hl 5 rfl) ?_
              refine r_if_gt (pc := 67) (a := B) hx hb dX5_sectorOf_67 (tgt := 74) (by decide) ⟨by omega, by omega⟩ (fun c_67 => ?_) (fun c_67 => ?_)
              · have c_67_ := c_67
                refine lv_iconst (pc := 74) (v := iv 3) hx hb dX5_sectorOf_74 rfl ?_
                exact lp_75 3 (by unfold qrt; repeat' split <;> omega) _ _ _ hP hD hS (lv_sub hl [0, 1, 2, 3, 4, 5] rfl)
              · have c_67_ := c_67
                refine lv_iconst (pc := 70) (v := iv 2) hx hb dX5_sectorOf_70 rfl ?_
                refine lv_goto (pc := 71) (tgt := 75) hx hb dX5_sectorOf_71 (by decide) ?_
                exact lp_75 2 (by unfold qrt; repeat' split <;> omega) _ _ _ hP hD hS (lv_sub hl [0, 1, 2, 3, 4, 5] rfl)
          · have c_48_ := c_48
            refine lv_iload (pc := 51) hx hb dX5_sectorOf_51 (lv_at hl 5 rfl) ?_
            refine r_if_le (pc := 53) (a := B) hx hb dX5_sectorOf_53 (tgt := 60) (by decide) ⟨by omega, by omega⟩ (fun c_53 => ?_) (fun c_53 => ?_)
            · have c_53_ := c_53
              refine lv_iload (pc := 60) hx hb dX5_sectorOf_60 (lv_at hl 4 rfl) ?_
              refine r_if_ge (pc := 62) (a := A) hx hb dX5_sectorOf_62 (tgt := 74) (by decide) ⟨by omega, by omega⟩ (fun c_62 => ?_) (fun c_62 => ?_)
              · have c_62_ := c_62
                refine lv_iconst (pc := 74) (v := iv 3) hx hb dX5_sectorOf_74 rfl ?_
                exact lp_75 3 (by unfold qrt; repeat' split <;> omega) _ _ _ hP hD hS (lv_sub hl [0, 1, 2, 3, 4, 5] rfl)
              · have c_62_ := c_62
                refine lv_iload (pc := 65) hx hb dX5_sectorOf_65 (lv_at hl 5 rfl) ?_
                refine r_if_gt (pc := 67) (a := B) hx hb dX5_sectorOf_67 (tgt := 74) (by decide) ⟨by omega, by omega⟩ (fun c_67 => ?_) (fun c_67 => ?_)
                · have c_67_ := c_67
                  refine lv_iconst (pc := 74) (v := iv 3) hx hb dX5_sectorOf_74 rfl ?_
                  exact lp_75 3 (by unfold qrt; repeat' split <;> omega) _ _ _ hP hD hS (lv_sub hl [0, 1, 2, 3, 4, 5] rfl)
                · have c_67_ := c_67
                  refine lv_iconst (pc := 70) (v := iv 2) hx hb dX5_sectorOf_70 rfl ?_
                  refine lv_goto (pc := 71) (tgt := 75) hx hb dX5_sectorOf_71 (by decide) ?_
                  exact lp_75 2 (by unfold qrt; repeat' split <;> omega) _ _ _ hP hD hS (lv_sub hl [0, 1, 2, 3, 4, 5] rfl)
            · have c_53_ := c_53
              refine lv_iconst (pc := 56) (v := iv 1) hx hb dX5_sectorOf_56 rfl ?_
              refine lv_goto (pc := 57) (tgt := 75) hx hb dX5_sectorOf_57 (by decide) ?_
              exact lp_75 1 (by unfold qrt; repeat' split <;> omega) _ _ _ hP hD hS (lv_sub hl [0, 1, 2, 3, 4, 5] rfl)
        · have c_39_ := c_39
          refine lv_iconst (pc := 42) (v := iv 0) hx hb dX5_sectorOf_42 rfl ?_
          refine lv_goto (pc := 43) (tgt := 75) hx hb dX5_sectorOf_43 (by decide) ?_
          exact lp_75 0 (by unfold qrt; repeat' split <;> omega) _ _ _ hP hD hS (lv_sub hl [0, 1, 2, 3, 4, 5] rfl)
    · have c_22_ := c_22
      refine lv_iload (pc := 25) hx hb dX5_sectorOf_25 (lv_at hl 5 rfl) ?_
      refine r_if_ne (pc := 27) (a := B) hx hb dX5_sectorOf_27 (tgt := 32) (by decide) ⟨by omega, by omega⟩ (fun c_27 => ?_) (fun c_27 => ?_)
      · have c_27_ := c_27
        have hn0 : ¬ (A = 0 ∧ B = 0) := by omega
        have lp_75 : ∀ (qd : Int) (hq : qd = qrt A B), ∀ (H : Heap) (locs : List Loc) (ls : Array Slot), WP ε (wM ε m0 ad n G ++ R) H → WD ε (wM ε m0 ad n G ++ R) → WS ε s9.heap H locs → lv_has ls 10 [(0, .ref m0), (1, .int (iv i)), (2, .int (iv x)), (3, .int (iv y)), (4, .int (iv A)), (5, .int (iv B))] → W p9 l e9 rm_c_m_sectorOf s9 m9 a9 bl9 me9 c9 H locs 0 0 Q9 (F0 m9 75 ls [.int (iv qd)]) := by
          intro qd hq H locs ls hP hD hS hl
          refine lv_istore (lv' := [(6, .int (iv qd)), (0, .ref m0), (1, .int (iv i)), (2, .int (iv x)), (3, .int (iv y)), (4, .int (iv A)), (5, .int (iv B))]) (pc := 75) hx hb dX5_sectorOf_75 hl (by decide) rfl (fun ls hl => ?_)
          have hqb := qrt_bd A B
          rw [← hq] at hqb
          have lp_90 : ∀ (wd : Int) (hw : wd = ab A), ∀ (H : Heap) (locs : List Loc) (ls : Array Slot), WP ε (wM ε m0 ad n G ++ R) H → WD ε (wM ε m0 ad n G ++ R) → WS ε s9.heap H locs → lv_has ls 10 [(0, .ref m0), (1, .int (iv i)), (2, .int (iv x)), (3, .int (iv y)), (4, .int (iv A)), (5, .int (iv B)), (6, .int (iv qd))] → W p9 l e9 rm_c_m_sectorOf s9 m9 a9 bl9 me9 c9 H locs 0 0 Q9 (F0 m9 90 ls [.int (iv wd)]) := by
            intro wd hw H locs ls hP hD hS hl
            refine lv_istore (lv' := [(7, .int (iv wd)), (0, .ref m0), (1, .int (iv i)), (2, .int (iv x)), (3, .int (iv y)), (4, .int (iv A)), (5, .int (iv B)), (6, .int (iv qd))]) (pc := 90) hx hb dX5_sectorOf_90 hl (by decide) rfl (fun ls hl => ?_)
            have lp_105 : ∀ (hg : Int) (hh : hg = ab B), ∀ (H : Heap) (locs : List Loc) (ls : Array Slot), WP ε (wM ε m0 ad n G ++ R) H → WD ε (wM ε m0 ad n G ++ R) → WS ε s9.heap H locs → lv_has ls 10 [(0, .ref m0), (1, .int (iv i)), (2, .int (iv x)), (3, .int (iv y)), (4, .int (iv A)), (5, .int (iv B)), (6, .int (iv qd)), (7, .int (iv wd))] → W p9 l e9 rm_c_m_sectorOf s9 m9 a9 bl9 me9 c9 H locs 0 0 Q9 (F0 m9 105 ls [.int (iv hg)]) := by
              intro hg hh H locs ls hP hD hS hl
              refine lv_istore (lv' := [(8, .int (iv hg)), (0, .ref m0), (1, .int (iv i)), (2, .int (iv x)), (3, .int (iv y)), (4, .int (iv A)), (5, .int (iv B)), (6, .int (iv qd)), (7, .int (iv wd))]) (pc := 105) hx hb dX5_sectorOf_105 hl (by decide) rfl (fun ls hl => ?_)
              have hwb : 0 ≤ wd ∧ wd ≤ 31 := by rw [hw]; unfold ab; split <;> omega
              have hgb : 0 ≤ hg ∧ hg ≤ 31 := by rw [hh]; unfold ab; split <;> omega
              have hmp : moreP A B ↔ (qd % 2 = 0 → wd ≤ hg) ∧ (qd % 2 ≠ 0 → hg ≤ wd) := by unfold moreP; rw [← hq, ← hw, ← hh]
              have lp_141 : ∀ (mo : Bool) (hm : mo = true ↔ moreP A B), ∀ (H : Heap) (locs : List Loc) (ls : Array Slot), WP ε (wM ε m0 ad n G ++ R) H → WD ε (wM ε m0 ad n G ++ R) → WS ε s9.heap H locs → lv_has ls 10 [(0, .ref m0), (1, .int (iv i)), (2, .int (iv x)), (3, .int (iv y)), (4, .int (iv A)), (5, .int (iv B)), (6, .int (iv qd)), (7, .int (iv wd)), (8, .int (iv hg))] → W p9 l e9 rm_c_m_sectorOf s9 m9 a9 bl9 me9 c9 H locs 0 0 Q9 (F0 m9 141 ls [.int (iv (bz mo))]) := by
                intro mo hm H locs ls hP hD hS hl
                refine lv_istore (lv' := [(9, .int (iv (bz mo))), (0, .ref m0), (1, .int (iv i)), (2, .int (iv x)), (3, .int (iv y)), (4, .int (iv A)), (5, .int (iv B)), (6, .int (iv qd)), (7, .int (iv wd)), (8, .int (iv hg))]) (pc := 141) hx hb dX5_sectorOf_141 hl (by decide) rfl (fun ls hl => ?_)
                refine lv_iconst (pc := 143) (v := iv 2) hx hb dX5_sectorOf_143 rfl ?_
                refine lv_iload (pc := 144) hx hb dX5_sectorOf_144 (lv_at hl 7 rfl) ?_
                refine r_imul (pc := 146) (a := 2) (b := qd) hx hb dX5_sectorOf_146 ?_
                refine lv_iload (pc := 147) hx hb dX5_sectorOf_147 (lv_at hl 0 rfl) ?_
                refine r_if_b0 (pc := 149) (b := mo) hx hb dX5_sectorOf_149 (tgt := 156) (by decide)  (fun c_149 => ?_) (fun c_149 => ?_)
                · have c_149_ := c_149
                  refine lv_iconst (pc := 156) (v := iv 0) hx hb dX5_sectorOf_156 rfl ?_
                  refine r_iadd (pc := 157) (a := 2 * qd) (b := 0) hx hb dX5_sectorOf_157 ?_
                  have hres : (2 * qd) + 0 = sectP (x - G 4 i.toNat) (y - G 5 i.toNat) := by
                   rw [← hA, ← hB]
                   unfold sectP
                   rw [if_neg hn0, ← hq, ← tb_of hm, c_149]
                   rfl
                  refine c_iret (pc := 158) hC hQ hP hD hS (by decide) (by decide) dX5_sectorOf_158 ?_
                  exact ⟨congrArg (fun z => some (Value.int (iv z))) hres, rfl⟩
                · have c_149_ := c_149
                  refine lv_iconst (pc := 152) (v := iv 1) hx hb dX5_sectorOf_152 rfl ?_
                  refine lv_goto (pc := 153) (tgt := 157) hx hb dX5_sectorOf_153 (by decide) ?_
                  refine r_iadd (pc := 157) (a := 2 * qd) (b := 1) hx hb dX5_sectorOf_157 ?_
                  have hres : (2 * qd) + 1 = sectP (x - G 4 i.toNat) (y - G 5 i.toNat) := by
                   rw [← hA, ← hB]
                   unfold sectP
                   rw [if_neg hn0, ← hq, ← tb_of hm, c_149]
                   rfl
                  refine c_iret (pc := 158) hC hQ hP hD hS (by decide) (by decide) dX5_sectorOf_158 ?_
                  exact ⟨congrArg (fun z => some (Value.int (iv z))) hres, rfl⟩
              refine lv_iload (pc := 107) hx hb dX5_sectorOf_107 (lv_at hl 7 rfl) ?_
              refine lv_iconst (pc := 109) (v := iv 2) hx hb dX5_sectorOf_109 rfl ?_
              refine r_irem (pc := 110) (a := qd) (b := 2) hx hb dX5_sectorOf_110 ⟨⟨by omega, by omega⟩, by omega, by omega⟩ ?_
              have hm_110 := Int.emod_nonneg qd (show 2 ≠ 0 by omega)
              have hn_110 := Int.emod_lt_of_pos qd (show 0 < 2 by omega)
              refine r_if_ne (pc := 111) (a := qd % 2) hx hb dX5_sectorOf_111 (tgt := 129) (by decide) ⟨by omega, by omega⟩ (fun c_111 => ?_) (fun c_111 => ?_)
              · have c_111_ := c_111
                refine lv_iload (pc := 129) hx hb dX5_sectorOf_129 (lv_at hl 8 rfl) ?_
                refine lv_iload (pc := 131) hx hb dX5_sectorOf_131 (lv_at hl 0 rfl) ?_
                refine r_icmp_lt (pc := 133) (a := wd) (b := hg) hx hb dX5_sectorOf_133 (tgt := 140) (by decide) ⟨by omega, by omega⟩ ⟨by omega, by omega⟩ (fun c_133 => ?_) (fun c_133 => ?_)
                · have c_133_ := c_133
                  refine lv_iconst (pc := 140) (v := iv 0) hx hb dX5_sectorOf_140 rfl ?_
                  exact lp_141 false ⟨fun z => (by cases z), fun z => (by obtain ⟨z1, z2⟩ := hmp.mp z; omega)⟩ _ _ _ hP hD hS (lv_sub hl [1, 2, 3, 4, 5, 6, 7, 8, 0] rfl)
                · have c_133_ := c_133
                  refine lv_iconst (pc := 136) (v := iv 1) hx hb dX5_sectorOf_136 rfl ?_
                  refine lv_goto (pc := 137) (tgt := 141) hx hb dX5_sectorOf_137 (by decide) ?_
                  exact lp_141 true ⟨fun _ => hmp.mpr ⟨fun z => (by omega), fun z => (by omega)⟩, fun _ => rfl⟩ _ _ _ hP hD hS (lv_sub hl [1, 2, 3, 4, 5, 6, 7, 8, 0] rfl)
              · have c_111_ := c_111
                refine lv_iload (pc := 114) hx hb dX5_sectorOf_114 (lv_at hl 0 rfl) ?_
                refine lv_iload (pc := 116) hx hb dX5_sectorOf_116 (lv_at hl 8 rfl) ?_
                refine r_icmp_lt (pc := 118) (a := hg) (b := wd) hx hb dX5_sectorOf_118 (tgt := 125) (by decide) ⟨by omega, by omega⟩ ⟨by omega, by omega⟩ (fun c_118 => ?_) (fun c_118 => ?_)
                · have c_118_ := c_118
                  refine lv_iconst (pc := 125) (v := iv 0) hx hb dX5_sectorOf_125 rfl ?_
                  refine lv_goto (pc := 126) (tgt := 141) hx hb dX5_sectorOf_126 (by decide) ?_
                  exact lp_141 false ⟨fun z => (by cases z), fun z => (by obtain ⟨z1, z2⟩ := hmp.mp z; omega)⟩ _ _ _ hP hD hS (lv_sub hl [1, 2, 3, 4, 5, 6, 7, 8, 0] rfl)
                · have c_118_ := c_118
                  refine lv_iconst (pc := 121) (v := iv 1) hx hb dX5_sectorOf_121 rfl ?_
                  refine lv_goto (pc := 122) (tgt := 141) hx hb dX5_sectorOf_122 (by decide) ?_
                  exact lp_141 true ⟨fun _ => hmp.mpr ⟨fun z => (by omega), fun z => (by omega)⟩, fun _ => rfl⟩ _ _ _ hP hD hS (lv_sub hl [1, 2, 3, 4, 5, 6, 7, 8, 0] rfl)
            refine lv_iload (pc := 92) hx hb dX5_sectorOf_92 (lv_at hl 6 rfl) ?_
            refine r_if_ge (pc := 94) (a := B) hx hb dX5_sectorOf_94 (tgt := 103) (by decide) ⟨by omega, by omega⟩ (fun c_94 => ?_) (fun c_94 => ?_)
            · have c_94_ := c_94
              refine lv_iload (pc := 103) hx hb dX5_sectorOf_103 (lv_at hl 6 rfl) ?_
              exact lp_105 B (by unfold ab; split <;> omega) _ _ _ hP hD hS (lv_sub hl [1, 2, 3, 4, 5, 6, 7, 0] rfl)
            · have c_94_ := c_94
              refine lv_iload (pc := 97) hx hb dX5_sectorOf_97 (lv_at hl 6 rfl) ?_
              refine r_ineg (pc := 99) (a := B) hx hb dX5_sectorOf_99 ?_
              refine lv_goto (pc := 100) (tgt := 105) hx hb dX5_sectorOf_100 (by decide) ?_
              exact lp_105 (-B) (by unfold ab; split <;> omega) _ _ _ hP hD hS (lv_sub hl [1, 2, 3, 4, 5, 6, 7, 0] rfl)
          refine lv_iload (pc := 77) hx hb dX5_sectorOf_77 (lv_at hl 5 rfl) ?_
          refine r_if_ge (pc := 79) (a := A) hx hb dX5_sectorOf_79 (tgt := 88) (by decide) ⟨by omega, by omega⟩ (fun c_79 => ?_) (fun c_79 => ?_)
          · have c_79_ := c_79
            refine lv_iload (pc := 88) hx hb dX5_sectorOf_88 (lv_at hl 5 rfl) ?_
            exact lp_90 A (by unfold ab; split <;> omega) _ _ _ hP hD hS (lv_sub hl [1, 2, 3, 4, 5, 6, 0] rfl)
          · have c_79_ := c_79
            refine lv_iload (pc := 82) hx hb dX5_sectorOf_82 (lv_at hl 5 rfl) ?_
            refine r_ineg (pc := 84) (a := A) hx hb dX5_sectorOf_84 ?_
            refine lv_goto (pc := 85) (tgt := 90) hx hb dX5_sectorOf_85 (by decide) ?_
            exact lp_90 (-A) (by unfold ab; split <;> omega) _ _ _ hP hD hS (lv_sub hl [1, 2, 3, 4, 5, 6, 0] rfl)
        refine lv_iload (pc := 32) hx hb dX5_sectorOf_32 (lv_at hl 4 rfl) ?_
        refine r_if_le (pc := 34) (a := A) hx hb dX5_sectorOf_34 (tgt := 46) (by decide) ⟨by omega, by omega⟩ (fun c_34 => ?_) (fun c_34 => ?_)
        · have c_34_ := c_34
          refine lv_iload (pc := 46) hx hb dX5_sectorOf_46 (lv_at hl 4 rfl) ?_
          refine r_if_gt (pc := 48) (a := A) hx hb dX5_sectorOf_48 (tgt := 60) (by decide) ⟨by omega, by omega⟩ (fun c_48 => ?_) (fun c_48 => ?_)
          · have c_48_ := c_48
            refine lv_iload (pc := 60) hx hb dX5_sectorOf_60 (lv_at hl 4 rfl) ?_
            refine r_if_ge (pc := 62) (a := A) hx hb dX5_sectorOf_62 (tgt := 74) (by decide) ⟨by omega, by omega⟩ (fun c_62 => ?_) (fun c_62 => ?_)
            · have c_62_ := c_62
              refine lv_iconst (pc := 74) (v := iv 3) hx hb dX5_sectorOf_74 rfl ?_
              exact lp_75 3 (by unfold qrt; repeat' split <;> omega) _ _ _ hP hD hS (lv_sub hl [0, 1, 2, 3, 4, 5] rfl)
            · have c_62_ := c_62
              refine lv_iload (pc := 65) hx hb dX5_sectorOf_65 (lv_at hl 5 rfl) ?_
              refine r_if_gt (pc := 67) (a := B) hx hb dX5_sectorOf_67 (tgt := 74) (by decide) ⟨by omega, by omega⟩ (fun c_67 => ?_) (fun c_67 => ?_)
              · have c_67_ := c_67
                refine lv_iconst (pc := 74) (v := iv 3) hx hb dX5_sectorOf_74 rfl ?_
                exact lp_75 3 (by unfold qrt; repeat' split <;> omega) _ _ _ hP hD hS (lv_sub hl [0, 1, 2, 3, 4, 5] rfl)
              · have c_67_ := c_67
                refine lv_iconst (pc := 70) (v := iv 2) hx hb dX5_sectorOf_70 rfl ?_
                refine lv_goto (pc := 71) (tgt := 75) hx hb dX5_sectorOf_71 (by decide) ?_
                exact lp_75 2 (by unfold qrt; repeat' split <;> omega) _ _ _ hP hD hS (lv_sub hl [0, 1, 2, 3, 4, 5] rfl)
          · have c_48_ := c_48
            refine lv_iload (pc := 51) hx hb dX5_sectorOf_51 (lv_at hl 5 rfl) ?_
            refine r_if_le (pc := 53) (a := B) hx hb dX5_sectorOf_53 (tgt := 60) (by decide) ⟨by omega, by omega⟩ (fun c_53 => ?_) (fun c_53 => ?_)
            · have c_53_ := c_53
              refine lv_iload (pc := 60) hx hb dX5_sectorOf_60 (lv_at hl 4 rfl) ?_
              refine r_if_ge (pc := 62) (a := A) hx hb dX5_sectorOf_62 (tgt := 74) (by decide) ⟨by omega, by omega⟩ (fun c_62 => ?_) (fun c_62 => ?_)
              · have c_62_ := c_62
                refine lv_iconst (pc := 74) (v := iv 3) hx hb dX5_sectorOf_74 rfl ?_
                exact lp_75 3 (by unfold qrt; repeat' split <;> omega) _ _ _ hP hD hS (lv_sub hl [0, 1, 2, 3, 4, 5] rfl)
              · have c_62_ := c_62
                refine lv_iload (pc := 65) hx hb dX5_sectorOf_65 (lv_at hl 5 rfl) ?_
                refine r_if_gt (pc := 67) (a := B) hx hb dX5_sectorOf_67 (tgt := 74) (by decide) ⟨by omega, by omega⟩ (fun c_67 => ?_) (fun c_67 => ?_)
                · have c_67_ := c_67
                  refine lv_iconst (pc := 74) (v := iv 3) hx hb dX5_sectorOf_74 rfl ?_
                  exact lp_75 3 (by unfold qrt; repeat' split <;> omega) _ _ _ hP hD hS (lv_sub hl [0, 1, 2, 3, 4, 5] rfl)
                · have c_67_ := c_67
                  refine lv_iconst (pc := 70) (v := iv 2) hx hb dX5_sectorOf_70 rfl ?_
                  refine lv_goto (pc := 71) (tgt := 75) hx hb dX5_sectorOf_71 (by decide) ?_
                  exact lp_75 2 (by unfold qrt; repeat' split <;> omega) _ _ _ hP hD hS (lv_sub hl [0, 1, 2, 3, 4, 5] rfl)
            · have c_53_ := c_53
              refine lv_iconst (pc := 56) (v := iv 1) hx hb dX5_sectorOf_56 rfl ?_
              refine lv_goto (pc := 57) (tgt := 75) hx hb dX5_sectorOf_57 (by decide) ?_
              exact lp_75 1 (by unfold qrt; repeat' split <;> omega) _ _ _ hP hD hS (lv_sub hl [0, 1, 2, 3, 4, 5] rfl)
        · have c_34_ := c_34
          refine lv_iload (pc := 37) hx hb dX5_sectorOf_37 (lv_at hl 5 rfl) ?_
          refine r_if_lt (pc := 39) (a := B) hx hb dX5_sectorOf_39 (tgt := 46) (by decide) ⟨by omega, by omega⟩ (fun c_39 => ?_) (fun c_39 => ?_)
          · have c_39_ := c_39
            refine lv_iload (pc := 46) hx hb dX5_sectorOf_46 (lv_at hl 4 rfl) ?_
            refine r_if_gt (pc := 48) (a := A) hx hb dX5_sectorOf_48 (tgt := 60) (by decide) ⟨by omega, by omega⟩ (fun c_48 => ?_) (fun c_48 => ?_)
            · have c_48_ := c_48
              refine lv_iload (pc := 60) hx hb dX5_sectorOf_60 (lv_at hl 4 rfl) ?_
              refine r_if_ge (pc := 62) (a := A) hx hb dX5_sectorOf_62 (tgt := 74) (by decide) ⟨by omega, by omega⟩ (fun c_62 => ?_) (fun c_62 => ?_)
              · have c_62_ := c_62
                refine lv_iconst (pc := 74) (v := iv 3) hx hb dX5_sectorOf_74 rfl ?_
                exact lp_75 3 (by unfold qrt; repeat' split <;> omega) _ _ _ hP hD hS (lv_sub hl [0, 1, 2, 3, 4, 5] rfl)
              · have c_62_ := c_62
                refine lv_iload (pc := 65) hx hb dX5_sectorOf_65 (lv_at hl 5 rfl) ?_
                refine r_if_gt (pc := 67) (a := B) hx hb dX5_sectorOf_67 (tgt := 74) (by decide) ⟨by omega, by omega⟩ (fun c_67 => ?_) (fun c_67 => ?_)
                · have c_67_ := c_67
                  refine lv_iconst (pc := 74) (v := iv 3) hx hb dX5_sectorOf_74 rfl ?_
                  exact lp_75 3 (by unfold qrt; repeat' split <;> omega) _ _ _ hP hD hS (lv_sub hl [0, 1, 2, 3, 4, 5] rfl)
                · have c_67_ := c_67
                  refine lv_iconst (pc := 70) (v := iv 2) hx hb dX5_sectorOf_70 rfl ?_
                  refine lv_goto (pc := 71) (tgt := 75) hx hb dX5_sectorOf_71 (by decide) ?_
                  exact lp_75 2 (by unfold qrt; repeat' split <;> omega) _ _ _ hP hD hS (lv_sub hl [0, 1, 2, 3, 4, 5] rfl)
            · have c_48_ := c_48
              refine lv_iload (pc := 51) hx hb dX5_sectorOf_51 (lv_at hl 5 rfl) ?_
              refine r_if_le (pc := 53) (a := B) hx hb dX5_sectorOf_53 (tgt := 60) (by decide) ⟨by omega, by omega⟩ (fun c_53 => ?_) (fun c_53 => ?_)
              · have c_53_ := c_53
                refine lv_iload (pc := 60) hx hb dX5_sectorOf_60 (lv_at hl 4 rfl) ?_
                refine r_if_ge (pc := 62) (a := A) hx hb dX5_sectorOf_62 (tgt := 74) (by decide) ⟨by omega, by omega⟩ (fun c_62 => ?_) (fun c_62 => ?_)
                · have c_62_ := c_62
                  refine lv_iconst (pc := 74) (v := iv 3) hx hb dX5_sectorOf_74 rfl ?_
                  exact lp_75 3 (by unfold qrt; repeat' split <;> omega) _ _ _ hP hD hS (lv_sub hl [0, 1, 2, 3, 4, 5] rfl)
                · have c_62_ := c_62
                  refine lv_iload (pc := 65) hx hb dX5_sectorOf_65 (lv_at hl 5 rfl) ?_
                  refine r_if_gt (pc := 67) (a := B) hx hb dX5_sectorOf_67 (tgt := 74) (by decide) ⟨by omega, by omega⟩ (fun c_67 => ?_) (fun c_67 => ?_)
                  · have c_67_ := c_67
                    refine lv_iconst (pc := 74) (v := iv 3) hx hb dX5_sectorOf_74 rfl ?_
                    exact lp_75 3 (by unfold qrt; repeat' split <;> omega) _ _ _ hP hD hS (lv_sub hl [0, 1, 2, 3, 4, 5] rfl)
                  · have c_67_ := c_67
                    refine lv_iconst (pc := 70) (v := iv 2) hx hb dX5_sectorOf_70 rfl ?_
                    refine lv_goto (pc := 71) (tgt := 75) hx hb dX5_sectorOf_71 (by decide) ?_
                    exact lp_75 2 (by unfold qrt; repeat' split <;> omega) _ _ _ hP hD hS (lv_sub hl [0, 1, 2, 3, 4, 5] rfl)
              · have c_53_ := c_53
                refine lv_iconst (pc := 56) (v := iv 1) hx hb dX5_sectorOf_56 rfl ?_
                refine lv_goto (pc := 57) (tgt := 75) hx hb dX5_sectorOf_57 (by decide) ?_
                exact lp_75 1 (by unfold qrt; repeat' split <;> omega) _ _ _ hP hD hS (lv_sub hl [0, 1, 2, 3, 4, 5] rfl)
          · have c_39_ := c_39
            refine lv_iconst (pc := 42) (v := iv 0) hx hb dX5_sectorOf_42 rfl ?_
            refine lv_goto (pc := 43) (tgt := 75) hx hb dX5_sectorOf_43 (by decide) ?_
            exact lp_75 0 (by unfold qrt; repeat' split <;> omega) _ _ _ hP hD hS (lv_sub hl [0, 1, 2, 3, 4, 5] rfl)
      · have c_27_ := c_27
        have hres : (-1 : Int) = sectP (x - G 4 i.toNat) (y - G 5 i.toNat) := by
         rw [← hA, ← hB]
         unfold sectP
         rw [if_pos ⟨by omega, by omega⟩]
        refine lv_iconst (pc := 30) (v := iv (-1)) hx hb dX5_sectorOf_30 rfl ?_
        refine c_iret (pc := 31) hC hQ hP hD hS (by decide) (by decide) dX5_sectorOf_31 ?_
        exact ⟨congrArg (fun z => some (Value.int (iv z))) hres, rfl⟩
  exact lp_20 (x - (G 4 i.toNat)) (y - (G 5 i.toNat)) rfl rfl _ _ _ hP hD hS (lv_sub hl [2, 3, 4, 5, 1, 0] rfl)

abbrev rm_c_m_sees : Room := { frames := 1, cells := 0, slots := 0, locals := 40 }
set_option maxRecDepth 100000 in
set_option maxHeartbeats 4000000 in
theorem c_m_sees (l : Launch) (ε : EV) (m0 : Nat) (ad : Nat → Nat) (n : Nat → Int) (G : Nat → Nat → Int) (R : va_W) (i x y : Int) (hi : 0 ≤ i ∧ i < 12) (hv : LV n G i) (hxy : (0 ≤ x ∧ x ≤ 31) ∧ 0 ≤ y ∧ y ≤ 31) : CT l yX5_sees cX5_sees 8 (some .boolean) rm_c_m_sees ε [.ref m0, .int (iv i), .int (iv x), .int (iv y)] (wM ε m0 ad n G ++ R) (fun v w => v = some (.int (iv (bz (tb (SEES G i x y))))) ∧ w = wM ε m0 ad n G ++ R) NX := by
  refine CT.intro (by decide +kernel) (Nat.le_of_ble_eq_true rfl) ?_
  intro p9 e9 s9 m9 a9 bl9 me9 c9 ls Q9 hC hE hP hD hl hQ
  have hx := hC.1
  have hb := hC.2.1
  have hK := hE.K
  have hS : WS ε s9.heap s9.heap [] := va_S.rf
  have hl : lv_has ls 8 [(0, .ref m0), (1, .int (iv i)), (2, .int (iv x)), (3, .int (iv y))] := hl
  obtain ⟨H, hH⟩ : ∃ H, H = s9.heap := ⟨_, rfl⟩
  obtain ⟨locs, hlo⟩ : ∃ z : List Loc, z = [] := ⟨_, rfl⟩
  rw [← hH] at hP ⊢
  have hS : WS ε s9.heap H locs := by rw [hH, hlo]; exact hS
  rw [← hlo]
  clear hH hlo
  have hv0 := hv
  obtain ⟨⟨h41, h42⟩, ⟨h51, h52⟩, ⟨h61, h62⟩, ⟨h71, h72⟩, ⟨h81, h82⟩, ⟨h91, h92⟩, h10⟩ := hv
  refine lv_iload_n (pc := 0) hx hb dX5_sees_0 rfl (lv_at hl 2 rfl) ?_
  refine lv_aload_n (pc := 1) hx hb dX5_sees_1 rfl (lv_at hl 0 rfl) ?_
  refine r_get (pc := 2) hC hK hP wM_o (hc := rfl) (fun w h => wt_1 w h) 7 (by decide) m_1_21 (fun _ h => h) (v := .ref (ad 4)) rfl dX5_sees_2 ?_
  refine lv_iload_n (pc := 5) hx hb dX5_sees_5 rfl (lv_at hl 1 rfl) ?_
  refine r_iald (pc := 6) (z := i) hC hK hP wM_4 ⟨by omega, by omega, by decide⟩ dX5_sees_6 ?_
  refine r_isub (pc := 7) (a := x) (b := G 4 i.toNat) hx hb dX5_sees_7 ?_
  refine lv_istore (lv' := [(4, .int (iv (x - (G 4 i.toNat)))), (0, .ref m0), (1, .int (iv i)), (2, .int (iv x)), (3, .int (iv y))]) (pc := 8) hx hb dX5_sees_8 hl (by decide) rfl (fun ls hl => ?_)
  refine lv_iload_n (pc := 10) hx hb dX5_sees_10 rfl (lv_at hl 4 rfl) ?_
  refine lv_aload_n (pc := 11) hx hb dX5_sees_11 rfl (lv_at hl 1 rfl) ?_
  refine r_get (pc := 12) hC hK hP wM_o (hc := rfl) (fun w h => wt_1 w h) 8 (by decide) m_1_22 (fun _ h => h) (v := .ref (ad 5)) rfl dX5_sees_12 ?_
  refine lv_iload_n (pc := 15) hx hb dX5_sees_15 rfl (lv_at hl 2 rfl) ?_
  refine r_iald (pc := 16) (z := i) hC hK hP wM_5 ⟨by omega, by omega, by decide⟩ dX5_sees_16 ?_
  refine r_isub (pc := 17) (a := y) (b := G 5 i.toNat) hx hb dX5_sees_17 ?_
  refine lv_istore (lv' := [(5, .int (iv (y - (G 5 i.toNat)))), (4, .int (iv (x - (G 4 i.toNat)))), (0, .ref m0), (1, .int (iv i)), (2, .int (iv x)), (3, .int (iv y))]) (pc := 18) hx hb dX5_sees_18 hl (by decide) rfl (fun ls hl => ?_)
  refine lv_aload_n (pc := 20) hx hb dX5_sees_20 rfl (lv_at hl 2 rfl) ?_
  refine lv_iload_n (pc := 21) hx hb dX5_sees_21 rfl (lv_at hl 3 rfl) ?_
  refine lv_iload_n (pc := 22) hx hb dX5_sees_22 rfl (lv_at hl 4 rfl) ?_
  refine lv_iload_n (pc := 23) hx hb dX5_sees_23 rfl (lv_at hl 5 rfl) ?_
  refine c_callV (pc := 24) (y := yX5_sectorOf) (As := [.int (iv i), .int (iv x), .int (iv y)]) (rest := []) hC hE hP hD hS hl.1 (c_m_sectorOf l ε m0 ad n G R (i) (x) (y) hi hv0 hxy) m_16_23 m_16_24 m_17_0 m_0_5 m_17_1 wM_o rfl hd_yX5_sectorOf rfl ⟨⟨by decide, by decide⟩, by decide, by decide⟩ (Nat.le_of_ble_eq_true rfl) rfl dX5_sees_24 kxN (fun v ws1 H locs hq hP hD hS => ?_)
  rw [hq.2] at hP hD
  rw [hq.1]
  dsimp only [Option.toList, List.cons_append, List.nil_append]
  refine lv_istore (lv' := [(6, .int (iv (sectP (x - G 4 i.toNat) (y - G 5 i.toNat)))), (5, .int (iv (y - (G 5 i.toNat)))), (4, .int (iv (x - (G 4 i.toNat)))), (0, .ref m0), (1, .int (iv i)), (2, .int (iv x)), (3, .int (iv y))]) (pc := 27) hx hb dX5_sees_27 hl (by decide) rfl (fun ls hl => ?_)
  have lp_29 : ∀ (A : Int) (B : Int) (sc : Int) (hA : A = x - G 4 i.toNat) (hB : B = y - G 5 i.toNat) (hsc : sc = sectP (x - G 4 i.toNat) (y - G 5 i.toNat)), ∀ (H : Heap) (locs : List Loc) (ls : Array Slot), WP ε (wM ε m0 ad n G ++ R) H → WD ε (wM ε m0 ad n G ++ R) → WS ε s9.heap H locs → lv_has ls 8 [(0, .ref m0), (1, .int (iv i)), (2, .int (iv x)), (3, .int (iv y)), (4, .int (iv A)), (5, .int (iv B)), (6, .int (iv sc))] → W p9 l e9 rm_c_m_sees s9 m9 a9 bl9 me9 c9 H locs 0 0 Q9 (F0 m9 29 ls []) := by
    intro A B sc hA hB hsc H locs ls hP hD hS hl
    have hsb := sectP_bd (x - G 4 i.toNat) (y - G 5 i.toNat)
    have lp_76 : ∀ (nr : Bool) (hnr : nr = true ↔ (-(G 8 i.toNat) ≤ A ∧ A ≤ G 8 i.toNat) ∧ (-(G 8 i.toNat) ≤ B ∧ B ≤ G 8 i.toNat)), ∀ (H : Heap) (locs : List Loc) (ls : Array Slot), WP ε (wM ε m0 ad n G ++ R) H → WD ε (wM ε m0 ad n G ++ R) → WS ε s9.heap H locs → lv_has ls 8 [(0, .ref m0), (1, .int (iv i)), (2, .int (iv x)), (3, .int (iv y)), (4, .int (iv A)), (5, .int (iv B)), (6, .int (iv sc))] → W p9 l e9 rm_c_m_sees s9 m9 a9 bl9 me9 c9 H locs 0 0 Q9 (F0 m9 76 ls [.int (iv (bz nr))]) := by
      intro nr hnr H locs ls hP hD hS hl
      refine lv_istore (lv' := [(7, .int (iv (bz nr))), (0, .ref m0), (1, .int (iv i)), (2, .int (iv x)), (3, .int (iv y)), (4, .int (iv A)), (5, .int (iv B)), (6, .int (iv sc))]) (pc := 76) hx hb dX5_sees_76 hl (by decide) rfl (fun ls hl => ?_)
      have hSE : SEES G i x y ↔ ((-(G 8 i.toNat) ≤ A ∧ A ≤ G 8 i.toNat) ∧ -(G 8 i.toNat) ≤ B ∧ B ≤ G 8 i.toNat) ∧ (sc < 0 ∨ (G 9 i.toNat) / 2 ^ sc.toNat % 2 = 1) := by unfold SEES; rw [← hsc, ← hA, ← hB]
      refine lv_iload (pc := 78) hx hb dX5_sees_78 (lv_at hl 0 rfl) ?_
      refine r_if_b0 (pc := 80) (b := nr) hx hb dX5_sees_80 (tgt := 107) (by decide)  (fun c_80 => ?_) (fun c_80 => ?_)
      · have c_80_ := c_80
        have hnr0 : nr = false → ¬ ((-(G 8 i.toNat) ≤ A ∧ A ≤ G 8 i.toNat) ∧ -(G 8 i.toNat) ≤ B ∧ B ≤ G 8 i.toNat) := fun z1 z2 => by rw [hnr.mpr z2] at z1; cases z1
        have hnr2 := hnr0 c_80
        refine lv_iconst (pc := 107) (v := iv 0) hx hb dX5_sees_107 rfl ?_
        refine c_zret (pc := 108) hC hQ hP hD hS (by decide) (by decide) dX5_sees_108 nz_0 ?_
        exact ⟨congrArg (fun z => some (Value.int z)) (bz_0 (tb_f (fun z => by have z9 := hSE.mp z; omega))), rfl⟩
      · have c_80_ := c_80
        have hnr1 := hnr.mp c_80
        refine lv_iload (pc := 83) hx hb dX5_sees_83 (lv_at hl 7 rfl) ?_
        refine r_if_lt (pc := 85) (a := sc) hx hb dX5_sees_85 (tgt := 103) (by decide) ⟨by omega, by omega⟩ (fun c_85 => ?_) (fun c_85 => ?_)
        · have c_85_ := c_85
          refine lv_iconst (pc := 103) (v := iv 1) hx hb dX5_sees_103 rfl ?_
          refine lv_goto (pc := 104) (tgt := 108) hx hb dX5_sees_104 (by decide) ?_
          refine c_zret (pc := 108) hC hQ hP hD hS (by decide) (by decide) dX5_sees_108 nz_1 ?_
          exact ⟨congrArg (fun z => some (Value.int z)) (bz_1 (tb_t (hSE.mpr (by omega)))), rfl⟩
        · have c_85_ := c_85
          refine lv_aload_n (pc := 88) hx hb dX5_sees_88 rfl (lv_at hl 1 rfl) ?_
          refine r_get (pc := 89) hC hK hP wM_o (hc := rfl) (fun w h => wt_1 w h) 12 (by decide) m_2_1 (fun _ h => h) (v := .ref (ad 9)) rfl dX5_sees_89 ?_
          refine lv_iload_n (pc := 92) hx hb dX5_sees_92 rfl (lv_at hl 2 rfl) ?_
          refine r_iald (pc := 93) (z := i) hC hK hP wM_9 ⟨by omega, by omega, by decide⟩ dX5_sees_93 ?_
          refine lv_iload (pc := 94) hx hb dX5_sees_94 (lv_at hl 7 rfl) ?_
          refine lv_ishr (pc := 96) (x := iv (G 9 i.toNat)) (y := iv sc) hx hb dX5_sees_96 ?_
          rw [iv_sshr ⟨by omega, by omega⟩ ⟨by omega, by omega⟩]
          refine lv_iconst (pc := 97) (v := iv 1) hx hb dX5_sees_97 rfl ?_
          have hdv : 0 ≤ G 9 i.toNat / 2 ^ sc.toNat ∧ G 9 i.toNat / 2 ^ sc.toNat < 2147483648 := ⟨Int.ediv_nonneg (by omega) (Int.pow_nonneg (by omega)), Int.lt_of_le_of_lt (Int.ediv_le_self _ (by omega)) (by omega)⟩
          refine lv_iand (pc := 98) (x := iv ((G 9 i.toNat) / 2 ^ sc.toNat)) (y := iv 1) hx hb dX5_sees_98 ?_
          rw [iv_and1 ⟨by omega, by omega⟩]
          have hm_98 := Int.emod_nonneg ((G 9 i.toNat) / 2 ^ sc.toNat) (show (2 : Int) ≠ 0 by omega)
          have hn_98 := Int.emod_lt_of_pos ((G 9 i.toNat) / 2 ^ sc.toNat) (show (0 : Int) < 2 by omega)
          refine lv_iconst (pc := 99) (v := iv 1) hx hb dX5_sees_99 rfl ?_
          refine r_icmp_ne (pc := 100) (a := ((G 9 i.toNat) / 2 ^ sc.toNat) % 2) (b := 1) hx hb dX5_sees_100 (tgt := 107) (by decide) ⟨by omega, by omega⟩ ⟨by omega, by omega⟩ (fun c_100 => ?_) (fun c_100 => ?_)
          · have c_100_ := c_100
            have hnr0 : nr = false → ¬ ((-(G 8 i.toNat) ≤ A ∧ A ≤ G 8 i.toNat) ∧ -(G 8 i.toNat) ≤ B ∧ B ≤ G 8 i.toNat) := fun z1 z2 => by rw [hnr.mpr z2] at z1; cases z1
            refine lv_iconst (pc := 107) (v := iv 0) hx hb dX5_sees_107 rfl ?_
            refine c_zret (pc := 108) hC hQ hP hD hS (by decide) (by decide) dX5_sees_108 nz_0 ?_
            exact ⟨congrArg (fun z => some (Value.int z)) (bz_0 (tb_f (fun z => by have z9 := hSE.mp z; omega))), rfl⟩
          · have c_100_ := c_100
            refine lv_iconst (pc := 103) (v := iv 1) hx hb dX5_sees_103 rfl ?_
            refine lv_goto (pc := 104) (tgt := 108) hx hb dX5_sees_104 (by decide) ?_
            refine c_zret (pc := 108) hC hQ hP hD hS (by decide) (by decide) dX5_sees_108 nz_1 ?_
            exact ⟨congrArg (fun z => some (Value.int z)) (bz_1 (tb_t (hSE.mpr (by omega)))), rfl⟩
    refine lv_iload (pc := 29) hx hb dX5_sees_29 (lv_at hl 4 rfl) ?_
    refine lv_aload_n (pc := 31) hx hb dX5_sees_31 rfl (lv_at hl 0 rfl) ?_
    refine r_get (pc := 32) hC hK hP wM_o (hc := rfl) (fun w h => wt_1 w h) 11 (by decide) m_2_0 (fun _ h => h) (v := .ref (ad 8)) rfl dX5_sees_32 ?_
    refine lv_iload_n (pc := 35) hx hb dX5_sees_35 rfl (lv_at hl 1 rfl) ?_
    refine r_iald (pc := 36) (z := i) hC hK hP wM_8 ⟨by omega, by omega, by decide⟩ dX5_sees_36 ?_
    refine r_ineg (pc := 37) (a := G 8 i.toNat) hx hb dX5_sees_37 ?_
    refine lv_aload_n (pc := 38) hx hb dX5_sees_38 rfl (lv_at hl 0 rfl) ?_
    refine r_get (pc := 39) hC hK hP wM_o (hc := rfl) (fun w h => wt_1 w h) 11 (by decide) m_2_0 (fun _ h => h) (v := .ref (ad 8)) rfl dX5_sees_39 ?_
    refine lv_iload_n (pc := 42) hx hb dX5_sees_42 rfl (lv_at hl 1 rfl) ?_
    refine r_iald (pc := 43) (z := i) hC hK hP wM_8 ⟨by omega, by omega, by decide⟩ dX5_sees_43 ?_
    refine c_callS (pc := 44) (y := yX5_isIn) (As := [.int (iv A), .int (iv (-(G 8 i.toNat))), .int (iv (G 8 i.toNat))]) (rest := []) hC hE hP hD hS hl.1 (c_m_isIn l ε (wM ε m0 ad n G ++ R) (A) (-(G 8 i.toNat)) (G 8 i.toNat) ⟨by omega, by omega⟩ ⟨by omega, by omega⟩ ⟨by omega, by omega⟩) m_3_5 m_3_6 m_0_5 m_3_7 hd_yX5_isIn rfl ⟨⟨by decide, by decide⟩, by decide, by decide⟩ (Nat.le_of_ble_eq_true rfl) rfl dX5_sees_44 kxN (fun v ws1 H locs hq hP hD hS => ?_)
    rw [hq.2] at hP hD
    rw [hq.1]
    dsimp only [Option.toList, List.cons_append, List.nil_append]
    refine r_if_b0 (pc := 47) (b := decide (-(G 8 i.toNat) ≤ A ∧ A ≤ G 8 i.toNat)) hx hb dX5_sees_47 (tgt := 75) (by decide)  (fun c_47 => ?_) (fun c_47 => ?_)
    · replace c_47 := of_decide_eq_false c_47
      refine lv_iconst (pc := 75) (v := iv 0) hx hb dX5_sees_75 rfl ?_
      exact lp_76 false ⟨fun z => (by cases z), fun z => (by omega)⟩ _ _ _ hP hD hS (lv_sub hl [0, 1, 2, 3, 4, 5, 6] rfl)
    · replace c_47 := of_decide_eq_true c_47
      refine lv_iload (pc := 50) hx hb dX5_sees_50 (lv_at hl 5 rfl) ?_
      refine lv_aload_n (pc := 52) hx hb dX5_sees_52 rfl (lv_at hl 0 rfl) ?_
      refine r_get (pc := 53) hC hK hP wM_o (hc := rfl) (fun w h => wt_1 w h) 11 (by decide) m_2_0 (fun _ h => h) (v := .ref (ad 8)) rfl dX5_sees_53 ?_
      refine lv_iload_n (pc := 56) hx hb dX5_sees_56 rfl (lv_at hl 1 rfl) ?_
      refine r_iald (pc := 57) (z := i) hC hK hP wM_8 ⟨by omega, by omega, by decide⟩ dX5_sees_57 ?_
      refine r_ineg (pc := 58) (a := G 8 i.toNat) hx hb dX5_sees_58 ?_
      refine lv_aload_n (pc := 59) hx hb dX5_sees_59 rfl (lv_at hl 0 rfl) ?_
      refine r_get (pc := 60) hC hK hP wM_o (hc := rfl) (fun w h => wt_1 w h) 11 (by decide) m_2_0 (fun _ h => h) (v := .ref (ad 8)) rfl dX5_sees_60 ?_
      refine lv_iload_n (pc := 63) hx hb dX5_sees_63 rfl (lv_at hl 1 rfl) ?_
      refine r_iald (pc := 64) (z := i) hC hK hP wM_8 ⟨by omega, by omega, by decide⟩ dX5_sees_64 ?_
      refine c_callS (pc := 65) (y := yX5_isIn) (As := [.int (iv B), .int (iv (-(G 8 i.toNat))), .int (iv (G 8 i.toNat))]) (rest := []) hC hE hP hD hS hl.1 (c_m_isIn l ε (wM ε m0 ad n G ++ R) (B) (-(G 8 i.toNat)) (G 8 i.toNat) ⟨by omega, by omega⟩ ⟨by omega, by omega⟩ ⟨by omega, by omega⟩) m_3_5 m_3_6 m_0_5 m_3_7 hd_yX5_isIn rfl ⟨⟨by decide, by decide⟩, by decide, by decide⟩ (Nat.le_of_ble_eq_true rfl) rfl dX5_sees_65 kxN (fun v ws1 H locs hq hP hD hS => ?_)
      rw [hq.2] at hP hD
      rw [hq.1]
      dsimp only [Option.toList, List.cons_append, List.nil_append]
      refine r_if_b0 (pc := 68) (b := decide (-(G 8 i.toNat) ≤ B ∧ B ≤ G 8 i.toNat)) hx hb dX5_sees_68 (tgt := 75) (by decide)  (fun c_68 => ?_) (fun c_68 => ?_)
      · replace c_68 := of_decide_eq_false c_68
        refine lv_iconst (pc := 75) (v := iv 0) hx hb dX5_sees_75 rfl ?_
        exact lp_76 false ⟨fun z => (by cases z), fun z => (by omega)⟩ _ _ _ hP hD hS (lv_sub hl [0, 1, 2, 3, 4, 5, 6] rfl)
      · replace c_68 := of_decide_eq_true c_68
        refine lv_iconst (pc := 71) (v := iv 1) hx hb dX5_sees_71 rfl ?_
        refine lv_goto (pc := 72) (tgt := 76) hx hb dX5_sees_72 (by decide) ?_
        exact lp_76 true ⟨fun _ => (by omega), fun _ => rfl⟩ _ _ _ hP hD hS (lv_sub hl [0, 1, 2, 3, 4, 5, 6] rfl)
  exact lp_29 (x - (G 4 i.toNat)) (y - (G 5 i.toNat)) (sectP (x - G 4 i.toNat) (y - G 5 i.toNat)) rfl rfl rfl _ _ _ hP hD hS (lv_sub hl [3, 4, 5, 6, 2, 1, 0] rfl)
end
section
abbrev rm_c_m_isOn : Room := { frames := 1, cells := 0, slots := 0, locals := 40 }
set_option maxRecDepth 100000 in
set_option maxHeartbeats 4000000 in
theorem c_m_isOn (l : Launch) (ε : EV) (m0 : Nat) (ad : Nat → Nat) (n : Nat → Int) (G : Nat → Nat → Int) (R : va_W) (i t : Int) (hi : 0 ≤ i ∧ i < 12) (hv : LV n G i) (hq : PQ G (G 6 i.toNat)) (hn1 : n 1 ≤ 20) (ht : 0 ≤ t ∧ t < 900000) : CT l yX5_isOn cX5_isOn 3 (some .boolean) rm_c_m_isOn ε [.ref m0, .int (iv i), .int (iv t)] (wM ε m0 ad n G ++ R) (fun v w => v = some (.int (iv (bz (ON G i t)))) ∧ w = wM ε m0 ad n G ++ R) NX := by
  refine CT.intro (by decide +kernel) (Nat.le_of_ble_eq_true rfl) ?_
  intro p9 e9 s9 m9 a9 bl9 me9 c9 ls Q9 hC hE hP hD hl hQ
  have hx := hC.1
  have hb := hC.2.1
  have hK := hE.K
  have hS : WS ε s9.heap s9.heap [] := va_S.rf
  have hl : lv_has ls 3 [(0, .ref m0), (1, .int (iv i)), (2, .int (iv t))] := hl
  obtain ⟨H, hH⟩ : ∃ H, H = s9.heap := ⟨_, rfl⟩
  obtain ⟨locs, hlo⟩ : ∃ z : List Loc, z = [] := ⟨_, rfl⟩
  rw [← hH] at hP ⊢
  have hS : WS ε s9.heap H locs := by rw [hH, hlo]; exact hS
  rw [← hlo]
  clear hH hlo
  obtain ⟨⟨h41, h42⟩, ⟨h51, h52⟩, ⟨h61, h62⟩, ⟨h71, h72⟩, ⟨h81, h82⟩, ⟨h91, h92⟩, h10⟩ := hv
  refine lv_aload_n (pc := 0) hx hb dX5_isOn_0 rfl (lv_at hl 0 rfl) ?_
  refine r_get (pc := 1) hC hK hP wM_o (hc := rfl) (fun w h => wt_1 w h) 13 (by decide) m_2_3 (fun _ h => h) (v := .ref (ad 10)) rfl dX5_isOn_1 ?_
  refine lv_iload_n (pc := 4) hx hb dX5_isOn_4 rfl (lv_at hl 1 rfl) ?_
  refine r_zald (pc := 5) (z := i) hC hK hP wM_10 ⟨by omega, by omega, by decide⟩ dX5_isOn_5 ?_
  refine r_if_ne (pc := 6) (a := G 10 i.toNat) hx hb dX5_isOn_6 (tgt := 34) (by decide) ⟨by omega, by omega⟩ (fun c_6 => ?_) (fun c_6 => ?_)
  · have c_6_ := c_6
    refine lv_iconst (pc := 34) (v := iv 0) hx hb dX5_isOn_34 rfl ?_
    refine c_zret (pc := 35) hC hQ hP hD hS (by decide) (by decide) dX5_isOn_35 nz_0 ?_
    exact ⟨congrArg (fun z => some (Value.int z)) (bz_0 (by unfold ON; rw [decide_eq_false (by omega)]; rfl)), rfl⟩
  · have c_6_ := c_6
    refine lv_aload_n (pc := 9) hx hb dX5_isOn_9 rfl (lv_at hl 0 rfl) ?_
    refine lv_aload_n (pc := 10) hx hb dX5_isOn_10 rfl (lv_at hl 0 rfl) ?_
    refine r_get (pc := 11) hC hK hP wM_o (hc := rfl) (fun w h => wt_1 w h) 9 (by decide) m_1_23 (fun _ h => h) (v := .ref (ad 6)) rfl dX5_isOn_11 ?_
    refine lv_iload_n (pc := 14) hx hb dX5_isOn_14 rfl (lv_at hl 1 rfl) ?_
    refine r_iald (pc := 15) (z := i) hC hK hP wM_6 ⟨by omega, by omega, by decide⟩ dX5_isOn_15 ?_
    refine lv_iload_n (pc := 16) hx hb dX5_isOn_16 rfl (lv_at hl 2 rfl) ?_
    refine lv_aload_n (pc := 17) hx hb dX5_isOn_17 rfl (lv_at hl 0 rfl) ?_
    refine r_get (pc := 18) hC hK hP wM_o (hc := rfl) (fun w h => wt_1 w h) 10 (by decide) m_1_24 (fun _ h => h) (v := .ref (ad 7)) rfl dX5_isOn_18 ?_
    refine lv_iload_n (pc := 21) hx hb dX5_isOn_21 rfl (lv_at hl 1 rfl) ?_
    refine r_iald (pc := 22) (z := i) hC hK hP wM_7 ⟨by omega, by omega, by decide⟩ dX5_isOn_22 ?_
    refine r_iadd (pc := 23) (a := t) (b := G 7 i.toNat) hx hb dX5_isOn_23 ?_
    refine c_callV (pc := 24) (y := yX5_isLight) (As := [.int (iv (G 6 i.toNat)), .int (iv (t + (G 7 i.toNat)))]) (rest := []) hC hE hP hD hS hl.1 (c_m_isLight l ε m0 ad n G R (G 6 i.toNat) (t + (G 7 i.toNat)) ⟨by omega, by omega⟩ hq ⟨by omega, by omega⟩) m_10_7 m_10_8 m_10_9 m_0_5 m_10_10 wM_o rfl hd_yX5_isLight rfl ⟨⟨by decide, by decide⟩, by decide, by decide⟩ (Nat.le_of_ble_eq_true rfl) rfl dX5_isOn_24 kxN (fun v ws1 H locs hq hP hD hS => ?_)
    rw [hq.2] at hP hD
    rw [hq.1]
    dsimp only [Option.toList, List.cons_append, List.nil_append]
    refine r_if_b0 (pc := 27) (b := LQ G (G 6 i.toNat) (t + (G 7 i.toNat))) hx hb dX5_isOn_27 (tgt := 34) (by decide)  (fun c_27 => ?_) (fun c_27 => ?_)
    · have c_27_ := c_27
      refine lv_iconst (pc := 34) (v := iv 0) hx hb dX5_isOn_34 rfl ?_
      refine c_zret (pc := 35) hC hQ hP hD hS (by decide) (by decide) dX5_isOn_35 nz_0 ?_
      exact ⟨congrArg (fun z => some (Value.int z)) (bz_0 (by unfold ON; rw [c_27, Bool.and_false])), rfl⟩
    · have c_27_ := c_27
      refine lv_iconst (pc := 30) (v := iv 1) hx hb dX5_isOn_30 rfl ?_
      refine lv_goto (pc := 31) (tgt := 35) hx hb dX5_isOn_31 (by decide) ?_
      refine c_zret (pc := 35) hC hQ hP hD hS (by decide) (by decide) dX5_isOn_35 nz_1 ?_
      exact ⟨congrArg (fun z => some (Value.int z)) (bz_1 (by unfold ON; rw [decide_eq_true (by omega), c_27]; rfl)), rfl⟩

abbrev rm_c_m_both : Room := { frames := 2, cells := 0, slots := 0, locals := 70 }
set_option maxRecDepth 100000 in
set_option maxHeartbeats 4000000 in
theorem c_m_both (l : Launch) (ε : EV) (m0 : Nat) (ad : Nat → Nat) (n : Nat → Int) (G : Nat → Nat → Int) (R : va_W) (i j : Int) (hi : 0 ≤ i ∧ i < 12) (hv : LV n G i) (hj : 0 ≤ j ∧ j < 12) (hv2 : LV n G j) : CT l yX5_both cX5_both 5 (some .int) rm_c_m_both ε [.ref m0, .int (iv i), .int (iv j)] (wM ε m0 ad n G ++ R) (fun v w => v = some (.int (iv (COMM G i j))) ∧ w = wM ε m0 ad n G ++ R) NX := by
  refine CT.intro (by decide +kernel) (Nat.le_of_ble_eq_true rfl) ?_
  intro p9 e9 s9 m9 a9 bl9 me9 c9 ls Q9 hC hE hP hD hl hQ
  have hx := hC.1
  have hb := hC.2.1
  have hK := hE.K
  have hS : WS ε s9.heap s9.heap [] := va_S.rf
  have hl : lv_has ls 5 [(0, .ref m0), (1, .int (iv i)), (2, .int (iv j))] := hl
  obtain ⟨H, hH⟩ : ∃ H, H = s9.heap := ⟨_, rfl⟩
  obtain ⟨locs, hlo⟩ : ∃ z : List Loc, z = [] := ⟨_, rfl⟩
  rw [← hH] at hP ⊢
  have hS : WS ε s9.heap H locs := by rw [hH, hlo]; exact hS
  rw [← hlo]
  clear hH hlo
  refine lv_iconst (pc := 0) (v := iv 0) hx hb dX5_both_0 rfl ?_
  refine lv_istore_n (lv' := [(3, .int (iv 0)), (0, .ref m0), (1, .int (iv i)), (2, .int (iv j))]) (pc := 1) hx hb dX5_both_1 rfl hl (by decide) rfl (fun ls hl => ?_)
  refine lv_iconst (pc := 2) (v := iv 0) hx hb dX5_both_2 rfl ?_
  refine lv_istore (lv' := [(4, .int (iv 0)), (3, .int (iv 0)), (0, .ref m0), (1, .int (iv i)), (2, .int (iv j))]) (pc := 3) hx hb dX5_both_3 hl (by decide) rfl (fun ls hl => ?_)
  have lp_5 : ∀ (k9 : Nat) (k : Int) (nn : Int) (hk : 0 ≤ k ∧ k ≤ 1024) (hn : nn = CNT (BOTHS G i j) k.toNat) , ((1024 - k).toNat) < k9 → ∀ (H : Heap) (locs : List Loc) (ls : Array Slot), WP ε (wM ε m0 ad n G ++ R) H → WD ε (wM ε m0 ad n G ++ R) → WS ε s9.heap H locs → lv_has ls 5 [(0, .ref m0), (1, .int (iv i)), (2, .int (iv j)), (3, .int (iv nn)), (4, .int (iv k))] → W p9 l e9 rm_c_m_both s9 m9 a9 bl9 me9 c9 H locs 0 0 Q9 (F0 m9 5 ls []) := by
    intro k9
    induction k9 with
    | zero => intro k nn hk hn h9; exact absurd h9 (Nat.not_lt_zero _)
    | succ k9 ih_5 =>
      intro k nn hk hn h9 H locs ls hP hD hS hl
      refine lv_iload (pc := 5) hx hb dX5_both_5 (lv_at hl 4 rfl) ?_
      refine lv_sipush (pc := 7) (v := iv 1024) hx hb dX5_both_7 (by decide) ?_
      refine r_icmp_ge (pc := 10) (a := k) (b := 1024) hx hb dX5_both_10 (tgt := 63) (by decide) ⟨by omega, by omega⟩ ⟨by omega, by omega⟩ (fun c_10 => ?_) (fun c_10 => ?_)
      · have c_10_ := c_10
        have hres : nn = COMM G i j := by rw [hn, show k.toNat = 1024 by omega]; rfl
        refine lv_iload_n (pc := 63) hx hb dX5_both_63 rfl (lv_at hl 3 rfl) ?_
        refine c_iret (pc := 64) hC hQ hP hD hS (by decide) (by decide) dX5_both_64 ?_
        exact ⟨congrArg (fun z => some (Value.int (iv z))) hres, rfl⟩
      · have c_10_ := c_10
        refine lv_iload_n (pc := 13) hx hb dX5_both_13 rfl (lv_at hl 3 rfl) ?_
        refine lv_aload_n (pc := 14) hx hb dX5_both_14 rfl (lv_at hl 0 rfl) ?_
        refine lv_iload_n (pc := 15) hx hb dX5_both_15 rfl (lv_at hl 1 rfl) ?_
        refine lv_iload (pc := 16) hx hb dX5_both_16 (lv_at hl 4 rfl) ?_
        refine lv_bipush (pc := 18) (v := iv 32) hx hb dX5_both_18 (by decide) ?_
        refine r_irem (pc := 20) (a := k) (b := 32) hx hb dX5_both_20 ⟨⟨by omega, by omega⟩, by omega, by omega⟩ ?_
        have hm_20 := Int.emod_nonneg k (show 32 ≠ 0 by omega)
        have hn_20 := Int.emod_lt_of_pos k (show 0 < 32 by omega)
        refine lv_iload (pc := 21) hx hb dX5_both_21 (lv_at hl 4 rfl) ?_
        refine lv_bipush (pc := 23) (v := iv 32) hx hb dX5_both_23 (by decide) ?_
        refine r_idiv (pc := 25) (a := k) (b := 32) hx hb dX5_both_25 ⟨⟨by omega, by omega⟩, by omega, by omega⟩ ?_
        refine c_callV (pc := 26) (y := yX5_sees) (As := [.int (iv i), .int (iv (k % 32)), .int (iv (k / 32))]) (rest := [.int (iv nn)]) hC hE hP hD hS hl.1 (c_m_sees l ε m0 ad n G R (i) (k % 32) (k / 32) hi hv ⟨⟨by omega, by omega⟩, by omega, by omega⟩) m_17_17 m_17_18 m_17_19 m_0_5 m_17_20 wM_o rfl hd_yX5_sees rfl ⟨⟨by decide, by decide⟩, by decide, by decide⟩ (Nat.le_of_ble_eq_true rfl) rfl dX5_both_26 kxN (fun v ws1 H locs hq hP hD hS => ?_)
        rw [hq.2] at hP hD
        rw [hq.1]
        dsimp only [Option.toList, List.cons_append, List.nil_append]
        refine r_if_b0 (pc := 29) (b := tb (SEES G i (k % 32) (k / 32))) hx hb dX5_both_29 (tgt := 54) (by decide)  (fun c_29 => ?_) (fun c_29 => ?_)
        · replace c_29 := tb_no c_29
          refine lv_iconst (pc := 54) (v := iv 0) hx hb dX5_both_54 rfl ?_
          refine r_iadd (pc := 55) (a := nn) (b := 0) hx hb dX5_both_55 ?_
          refine lv_istore_n (lv' := [(3, .int (iv (nn + 0))), (0, .ref m0), (1, .int (iv i)), (2, .int (iv j)), (4, .int (iv k))]) (pc := 56) hx hb dX5_both_56 rfl hl (by decide) rfl (fun ls hl => ?_)
          refine lv_iinc (v := iv (k + 1)) (lv' := [(4, .int (iv (k + 1))), (3, .int (iv (nn + 0))), (0, .ref m0), (1, .int (iv i)), (2, .int (iv j))]) (pc := 57) hx hb dX5_both_57 hl (k := 4) rfl (iv_add _ _) (by decide) rfl (fun ls hl => ?_)
          refine lv_goto (pc := 60) (tgt := 5) hx hb dX5_both_60 (by decide) ?_
          exact ih_5 (k + 1) (nn + 0) (by omega) (by rw [CNT.succ hk.1, tb_f (show ¬ BOTHS G i j k from fun z => c_29 z.1), hn]; rfl) (by omega) _ _ _ hP hD hS (lv_sub hl [2, 3, 4, 1, 0] rfl)
        · replace c_29 := tb_iff.mp c_29
          refine lv_aload_n (pc := 32) hx hb dX5_both_32 rfl (lv_at hl 0 rfl) ?_
          refine lv_iload_n (pc := 33) hx hb dX5_both_33 rfl (lv_at hl 2 rfl) ?_
          refine lv_iload (pc := 34) hx hb dX5_both_34 (lv_at hl 4 rfl) ?_
          refine lv_bipush (pc := 36) (v := iv 32) hx hb dX5_both_36 (by decide) ?_
          refine r_irem (pc := 38) (a := k) (b := 32) hx hb dX5_both_38 ⟨⟨by omega, by omega⟩, by omega, by omega⟩ ?_
          have hm_38 := Int.emod_nonneg k (show 32 ≠ 0 by omega)
          have hn_38 := Int.emod_lt_of_pos k (show 0 < 32 by omega)
          refine lv_iload (pc := 39) hx hb dX5_both_39 (lv_at hl 4 rfl) ?_
          refine lv_bipush (pc := 41) (v := iv 32) hx hb dX5_both_41 (by decide) ?_
          refine r_idiv (pc := 43) (a := k) (b := 32) hx hb dX5_both_43 ⟨⟨by omega, by omega⟩, by omega, by omega⟩ ?_
          refine c_callV (pc := 44) (y := yX5_sees) (As := [.int (iv j), .int (iv (k % 32)), .int (iv (k / 32))]) (rest := [.int (iv nn)]) hC hE hP hD hS hl.1 (c_m_sees l ε m0 ad n G R (j) (k % 32) (k / 32) hj hv2 ⟨⟨by omega, by omega⟩, by omega, by omega⟩) m_17_17 m_17_18 m_17_19 m_0_5 m_17_20 wM_o rfl hd_yX5_sees rfl ⟨⟨by decide, by decide⟩, by decide, by decide⟩ (Nat.le_of_ble_eq_true rfl) rfl dX5_both_44 kxN (fun v ws1 H locs hq hP hD hS => ?_)
          rw [hq.2] at hP hD
          rw [hq.1]
          dsimp only [Option.toList, List.cons_append, List.nil_append]
          refine r_if_b0 (pc := 47) (b := tb (SEES G j (k % 32) (k / 32))) hx hb dX5_both_47 (tgt := 54) (by decide)  (fun c_47 => ?_) (fun c_47 => ?_)
          · replace c_47 := tb_no c_47
            refine lv_iconst (pc := 54) (v := iv 0) hx hb dX5_both_54 rfl ?_
            refine r_iadd (pc := 55) (a := nn) (b := 0) hx hb dX5_both_55 ?_
            refine lv_istore_n (lv' := [(3, .int (iv (nn + 0))), (0, .ref m0), (1, .int (iv i)), (2, .int (iv j)), (4, .int (iv k))]) (pc := 56) hx hb dX5_both_56 rfl hl (by decide) rfl (fun ls hl => ?_)
            refine lv_iinc (v := iv (k + 1)) (lv' := [(4, .int (iv (k + 1))), (3, .int (iv (nn + 0))), (0, .ref m0), (1, .int (iv i)), (2, .int (iv j))]) (pc := 57) hx hb dX5_both_57 hl (k := 4) rfl (iv_add _ _) (by decide) rfl (fun ls hl => ?_)
            refine lv_goto (pc := 60) (tgt := 5) hx hb dX5_both_60 (by decide) ?_
            exact ih_5 (k + 1) (nn + 0) (by omega) (by rw [CNT.succ hk.1, tb_f (show ¬ BOTHS G i j k from fun z => c_47 z.2), hn]; rfl) (by omega) _ _ _ hP hD hS (lv_sub hl [2, 3, 4, 1, 0] rfl)
          · replace c_47 := tb_iff.mp c_47
            refine lv_iconst (pc := 50) (v := iv 1) hx hb dX5_both_50 rfl ?_
            refine lv_goto (pc := 51) (tgt := 55) hx hb dX5_both_51 (by decide) ?_
            refine r_iadd (pc := 55) (a := nn) (b := 1) hx hb dX5_both_55 ?_
            refine lv_istore_n (lv' := [(3, .int (iv (nn + 1))), (0, .ref m0), (1, .int (iv i)), (2, .int (iv j)), (4, .int (iv k))]) (pc := 56) hx hb dX5_both_56 rfl hl (by decide) rfl (fun ls hl => ?_)
            refine lv_iinc (v := iv (k + 1)) (lv' := [(4, .int (iv (k + 1))), (3, .int (iv (nn + 1))), (0, .ref m0), (1, .int (iv i)), (2, .int (iv j))]) (pc := 57) hx hb dX5_both_57 hl (k := 4) rfl (iv_add _ _) (by decide) rfl (fun ls hl => ?_)
            refine lv_goto (pc := 60) (tgt := 5) hx hb dX5_both_60 (by decide) ?_
            exact ih_5 (k + 1) (nn + 1) (by omega) (by rw [CNT.succ hk.1, tb_t (show BOTHS G i j k from ⟨c_29, c_47⟩), hn]; rfl) (by omega) _ _ _ hP hD hS (lv_sub hl [2, 3, 4, 1, 0] rfl)
  exact lp_5 _ 0 0 (by omega) rfl (Nat.lt_succ_self _) _ _ _ hP hD hS (lv_sub hl [2, 3, 4, 1, 0] rfl)

abbrev rm_c_m_could : Room := { frames := 2, cells := 0, slots := 0, locals := 70 }
set_option maxRecDepth 100000 in
set_option maxHeartbeats 4000000 in
theorem c_m_could (l : Launch) (ε : EV) (m0 : Nat) (ad : Nat → Nat) (n : Nat → Int) (G : Nat → Nat → Int) (R : va_W) (q i fr many : Int) (hp : 0 ≤ q ∧ q < 20) (hq : PQ G q) (hi : 0 ≤ i ∧ i < 12) (hv : LV n G i) (hq2 : PQ G (G 6 i.toNat)) (hn1 : n 1 ≤ 20) (hf : 0 ≤ fr ∧ fr ≤ 1000) (hm : 1 ≤ many ∧ many ≤ 60) : CT l yX5_could cX5_could 9 (some .boolean) rm_c_m_could ε [.ref m0, .int (iv q), .int (iv i), .int (iv fr), .int (iv many)] (wM ε m0 ad n G ++ R) (fun v w => v = some (.int (iv (bz (tb (COULD G q i fr many))))) ∧ w = wM ε m0 ad n G ++ R) NX := by
  refine CT.intro (by decide +kernel) (Nat.le_of_ble_eq_true rfl) ?_
  intro p9 e9 s9 m9 a9 bl9 me9 c9 ls Q9 hC hE hP hD hl hQ
  have hx := hC.1
  have hb := hC.2.1
  have hK := hE.K
  have hS : WS ε s9.heap s9.heap [] := va_S.rf
  have hl : lv_has ls 9 [(0, .ref m0), (1, .int (iv q)), (2, .int (iv i)), (3, .int (iv fr)), (4, .int (iv many))] := hl
  obtain ⟨H, hH⟩ : ∃ H, H = s9.heap := ⟨_, rfl⟩
  obtain ⟨locs, hlo⟩ : ∃ z : List Loc, z = [] := ⟨_, rfl⟩
  rw [← hH] at hP ⊢
  have hS : WS ε s9.heap H locs := by rw [hH, hlo]; exact hS
  rw [← hlo]
  clear hH hlo
  have hper := hq.per
  refine lv_iconst (pc := 0) (v := iv 0) hx hb dX5_could_0 rfl ?_
  refine lv_istore (lv' := [(5, .int (iv 0)), (0, .ref m0), (1, .int (iv q)), (2, .int (iv i)), (3, .int (iv fr)), (4, .int (iv many))]) (pc := 1) hx hb dX5_could_1 hl (by decide) rfl (fun ls hl => ?_)
  refine lv_iconst (pc := 3) (v := iv 0) hx hb dX5_could_3 rfl ?_
  refine lv_istore (lv' := [(6, .int (iv 0)), (5, .int (iv 0)), (0, .ref m0), (1, .int (iv q)), (2, .int (iv i)), (3, .int (iv fr)), (4, .int (iv many))]) (pc := 4) hx hb dX5_could_4 hl (by decide) rfl (fun ls hl => ?_)
  have lp_6 : ∀ (k9 : Nat) (fd : Bool) (t : Int) (ht : 0 ≤ t ∧ t ≤ G 3 q.toNat) (hfd : fd = true ↔ EXb (fun t9 => ALLb (fun u9 => LQ G q (t9 + u9) = ON G i (fr + u9)) many) t) , ((G 3 q.toNat - t).toNat) < k9 → ∀ (H : Heap) (locs : List Loc) (ls : Array Slot), WP ε (wM ε m0 ad n G ++ R) H → WD ε (wM ε m0 ad n G ++ R) → WS ε s9.heap H locs → lv_has ls 9 [(0, .ref m0), (1, .int (iv q)), (2, .int (iv i)), (3, .int (iv fr)), (4, .int (iv many)), (5, .int (iv (bz fd))), (6, .int (iv t))] → W p9 l e9 rm_c_m_could s9 m9 a9 bl9 me9 c9 H locs 0 0 Q9 (F0 m9 6 ls []) := by
    intro k9
    induction k9 with
    | zero => intro fd t ht hfd h9; exact absurd h9 (Nat.not_lt_zero _)
    | succ k9 ih_6 =>
      intro fd t ht hfd h9 H locs ls hP hD hS hl
      refine lv_iload (pc := 6) hx hb dX5_could_6 (lv_at hl 6 rfl) ?_
      refine lv_aload_n (pc := 8) hx hb dX5_could_8 rfl (lv_at hl 0 rfl) ?_
      refine r_get (pc := 9) hC hK hP wM_o (hc := rfl) (fun w h => wt_1 w h) 5 (by decide) m_1_20 (fun _ h => h) (v := .ref (ad 3)) rfl dX5_could_9 ?_
      refine lv_iload_n (pc := 12) hx hb dX5_could_12 rfl (lv_at hl 1 rfl) ?_
      refine r_iald (pc := 13) (z := q) hC hK hP wM_3 ⟨by omega, by omega, by decide⟩ dX5_could_13 ?_
      refine r_icmp_ge (pc := 14) (a := t) (b := G 3 q.toNat) hx hb dX5_could_14 (tgt := 81) (by decide) ⟨by omega, by omega⟩ ⟨by omega, by omega⟩ (fun c_14 => ?_) (fun c_14 => ?_)
      · have c_14_ := c_14
        have hres : fd = true ↔ COULD G q i fr many := by
         rw [hfd, show t = G 3 q.toNat by omega]
         rfl
        refine lv_iload (pc := 81) hx hb dX5_could_81 (lv_at hl 5 rfl) ?_
        refine c_zret (pc := 83) hC hQ hP hD hS (by decide) (by decide) dX5_could_83 (nz_b _) ?_
        exact ⟨congrArg (fun z => some (Value.int (iv (bz z)))) (tb_of hres), rfl⟩
      · have c_14_ := c_14
        refine lv_iconst (pc := 17) (v := iv 1) hx hb dX5_could_17 rfl ?_
        refine lv_istore (lv' := [(7, .int (iv 1)), (0, .ref m0), (1, .int (iv q)), (2, .int (iv i)), (3, .int (iv fr)), (4, .int (iv many)), (5, .int (iv (bz fd))), (6, .int (iv t))]) (pc := 18) hx hb dX5_could_18 hl (by decide) rfl (fun ls hl => ?_)
        refine lv_iconst (pc := 20) (v := iv 0) hx hb dX5_could_20 rfl ?_
        refine lv_istore (lv' := [(8, .int (iv 0)), (7, .int (iv 1)), (0, .ref m0), (1, .int (iv q)), (2, .int (iv i)), (3, .int (iv fr)), (4, .int (iv many)), (5, .int (iv (bz fd))), (6, .int (iv t))]) (pc := 21) hx hb dX5_could_21 hl (by decide) rfl (fun ls hl => ?_)
        have lp_23 : ∀ (k9 : Nat) (is : Bool) (u : Int) (hu : 0 ≤ u ∧ u ≤ many) (his : is = true ↔ ALLb (fun u9 => LQ G q (t + u9) = ON G i (fr + u9)) u) , ((many - u).toNat) < k9 → ∀ (H : Heap) (locs : List Loc) (ls : Array Slot), WP ε (wM ε m0 ad n G ++ R) H → WD ε (wM ε m0 ad n G ++ R) → WS ε s9.heap H locs → lv_has ls 9 [(0, .ref m0), (1, .int (iv q)), (2, .int (iv i)), (3, .int (iv fr)), (4, .int (iv many)), (5, .int (iv (bz fd))), (6, .int (iv t)), (7, .int (iv (bz is))), (8, .int (iv u))] → W p9 l e9 rm_c_m_could s9 m9 a9 bl9 me9 c9 H locs 0 0 Q9 (F0 m9 23 ls []) := by
          intro k9
          induction k9 with
          | zero => intro is u hu his h9; exact absurd h9 (Nat.not_lt_zero _)
          | succ k9 ih_23 =>
            intro is u hu his h9 H locs ls hP hD hS hl
            refine lv_iload (pc := 23) hx hb dX5_could_23 (lv_at hl 8 rfl) ?_
            refine lv_iload (pc := 25) hx hb dX5_could_25 (lv_at hl 4 rfl) ?_
            refine r_icmp_ge (pc := 27) (a := u) (b := many) hx hb dX5_could_27 (tgt := 68) (by decide) ⟨by omega, by omega⟩ ⟨by omega, by omega⟩ (fun c_27 => ?_) (fun c_27 => ?_)
            · have c_27_ := c_27
              refine lv_iload (pc := 68) hx hb dX5_could_68 (lv_at hl 5 rfl) ?_
              refine lv_iload (pc := 70) hx hb dX5_could_70 (lv_at hl 7 rfl) ?_
              refine lv_ior (pc := 72) (x := iv (bz fd)) (y := iv (bz is)) hx hb dX5_could_72 ?_
              rw [bz_or]
              refine lv_istore (lv' := [(5, .int (iv (bz ((fd || is))))), (0, .ref m0), (1, .int (iv q)), (2, .int (iv i)), (3, .int (iv fr)), (4, .int (iv many)), (6, .int (iv t)), (7, .int (iv (bz is))), (8, .int (iv u))]) (pc := 73) hx hb dX5_could_73 hl (by decide) rfl (fun ls hl => ?_)
              have hbk := ex_or (P := (fun t9 => ALLb (fun u9 => LQ G q (t9 + u9) = ON G i (fr + u9)) many)) ht.1 hfd (b := is) (his.trans ⟨fun z => z.eq (by omega), fun z => z.eq (by omega)⟩)
              refine lv_iinc (v := iv (t + 1)) (lv' := [(6, .int (iv (t + 1))), (5, .int (iv (bz ((fd || is))))), (0, .ref m0), (1, .int (iv q)), (2, .int (iv i)), (3, .int (iv fr)), (4, .int (iv many)), (7, .int (iv (bz is))), (8, .int (iv u))]) (pc := 75) hx hb dX5_could_75 hl (k := 6) rfl (iv_add _ _) (by decide) rfl (fun ls hl => ?_)
              refine lv_goto (pc := 78) (tgt := 6) hx hb dX5_could_78 (by decide) ?_
              exact ih_6 ((fd || is)) (t + 1) (by omega) hbk (by omega) _ _ _ hP hD hS (lv_sub hl [2, 3, 4, 5, 6, 1, 0] rfl)
            · have c_27_ := c_27
              have lp_59 : ∀ (bb : Bool) (hb9 : bb = true ↔ LQ G q (t + u) = ON G i (fr + u)), ∀ (H : Heap) (locs : List Loc) (ls : Array Slot), WP ε (wM ε m0 ad n G ++ R) H → WD ε (wM ε m0 ad n G ++ R) → WS ε s9.heap H locs → lv_has ls 9 [(0, .ref m0), (1, .int (iv q)), (2, .int (iv i)), (3, .int (iv fr)), (4, .int (iv many)), (5, .int (iv (bz fd))), (6, .int (iv t)), (7, .int (iv (bz is))), (8, .int (iv u))] → W p9 l e9 rm_c_m_could s9 m9 a9 bl9 me9 c9 H locs 0 0 Q9 (F0 m9 59 ls [.int (iv (bz bb)), .int (iv (bz is))]) := by
                intro bb hb9 H locs ls hP hD hS hl
                refine lv_iand (pc := 59) (x := iv (bz is)) (y := iv (bz bb)) hx hb dX5_could_59 ?_
                rw [bz_and]
                refine lv_istore (lv' := [(7, .int (iv (bz ((is && bb))))), (0, .ref m0), (1, .int (iv q)), (2, .int (iv i)), (3, .int (iv fr)), (4, .int (iv many)), (5, .int (iv (bz fd))), (6, .int (iv t)), (8, .int (iv u))]) (pc := 60) hx hb dX5_could_60 hl (by decide) rfl (fun ls hl => ?_)
                refine lv_iinc (v := iv (u + 1)) (lv' := [(8, .int (iv (u + 1))), (7, .int (iv (bz ((is && bb))))), (0, .ref m0), (1, .int (iv q)), (2, .int (iv i)), (3, .int (iv fr)), (4, .int (iv many)), (5, .int (iv (bz fd))), (6, .int (iv t))]) (pc := 62) hx hb dX5_could_62 hl (k := 8) rfl (iv_add _ _) (by decide) rfl (fun ls hl => ?_)
                refine lv_goto (pc := 65) (tgt := 23) hx hb dX5_could_65 (by decide) ?_
                exact ih_23 ((is && bb)) (u + 1) (by omega) (al_and (P := (fun u9 => LQ G q (t + u9) = ON G i (fr + u9))) (by omega) his hb9) (by omega) _ _ _ hP hD hS (lv_sub hl [2, 3, 4, 5, 6, 7, 8, 1, 0] rfl)
              refine lv_iload (pc := 30) hx hb dX5_could_30 (lv_at hl 7 rfl) ?_
              refine lv_aload_n (pc := 32) hx hb dX5_could_32 rfl (lv_at hl 0 rfl) ?_
              refine lv_iload_n (pc := 33) hx hb dX5_could_33 rfl (lv_at hl 1 rfl) ?_
              refine lv_iload (pc := 34) hx hb dX5_could_34 (lv_at hl 6 rfl) ?_
              refine lv_iload (pc := 36) hx hb dX5_could_36 (lv_at hl 8 rfl) ?_
              refine r_iadd (pc := 38) (a := t) (b := u) hx hb dX5_could_38 ?_
              refine c_callV (pc := 39) (y := yX5_isLight) (As := [.int (iv q), .int (iv (t + u))]) (rest := [.int (iv (bz is))]) hC hE hP hD hS hl.1 (c_m_isLight l ε m0 ad n G R (q) (t + u) hp hq ⟨by omega, by omega⟩) m_10_7 m_10_8 m_10_9 m_0_5 m_10_10 wM_o rfl hd_yX5_isLight rfl ⟨⟨by decide, by decide⟩, by decide, by decide⟩ (Nat.le_of_ble_eq_true rfl) rfl dX5_could_39 kxN (fun v ws1 H locs hq hP hD hS => ?_)
              rw [hq.2] at hP hD
              rw [hq.1]
              dsimp only [Option.toList, List.cons_append, List.nil_append]
              refine lv_aload_n (pc := 42) hx hb dX5_could_42 rfl (lv_at hl 0 rfl) ?_
              refine lv_iload_n (pc := 43) hx hb dX5_could_43 rfl (lv_at hl 2 rfl) ?_
              refine lv_iload_n (pc := 44) hx hb dX5_could_44 rfl (lv_at hl 3 rfl) ?_
              refine lv_iload (pc := 45) hx hb dX5_could_45 (lv_at hl 8 rfl) ?_
              refine r_iadd (pc := 47) (a := fr) (b := u) hx hb dX5_could_47 ?_
              refine c_callV (pc := 48) (y := yX5_isOn) (As := [.int (iv i), .int (iv (fr + u))]) (rest := [.int (iv (bz (LQ G q (t + u)))), .int (iv (bz is))]) hC hE hP hD hS hl.1 (c_m_isOn l ε m0 ad n G R (i) (fr + u) hi hv hq2 hn1 ⟨by omega, by omega⟩) m_16_1 m_16_2 m_16_3 m_0_5 m_16_4 wM_o rfl hd_yX5_isOn rfl ⟨⟨by decide, by decide⟩, by decide, by decide⟩ (Nat.le_of_ble_eq_true rfl) rfl dX5_could_48 kxN (fun v ws1 H locs hq hP hD hS => ?_)
              rw [hq.2] at hP hD
              rw [hq.1]
              dsimp only [Option.toList, List.cons_append, List.nil_append]
              refine r_icmp_ne (pc := 51) (a := bz (LQ G q (t + u))) (b := bz (ON G i (fr + u))) hx hb dX5_could_51 (tgt := 58) (by decide) (bz_rg _) (bz_rg _) (fun c_51 => ?_) (fun c_51 => ?_)
              · have c_51_ := c_51
                refine lv_iconst (pc := 58) (v := iv 0) hx hb dX5_could_58 rfl ?_
                exact lp_59 false ⟨fun z => (by cases z), fun z => absurd (congrArg bz z) c_51⟩ _ _ _ hP hD hS (lv_sub hl [0, 1, 2, 3, 4, 5, 6, 7, 8] rfl)
              · have c_51_ := c_51
                refine lv_iconst (pc := 54) (v := iv 1) hx hb dX5_could_54 rfl ?_
                refine lv_goto (pc := 55) (tgt := 59) hx hb dX5_could_55 (by decide) ?_
                exact lp_59 true ⟨fun _ => bz_inj (by omega), fun _ => rfl⟩ _ _ _ hP hD hS (lv_sub hl [0, 1, 2, 3, 4, 5, 6, 7, 8] rfl)
        exact lp_23 _ true 0 (by omega) ⟨fun _ => ALLb.zero (by omega), fun _ => rfl⟩ (Nat.lt_succ_self _) _ _ _ hP hD hS (lv_sub hl [2, 3, 4, 5, 6, 7, 8, 1, 0] rfl)
  exact lp_6 _ false 0 (by omega) ⟨fun z => (by cases z), fun z => absurd z (EXb.zero (by omega))⟩ (Nat.lt_succ_self _) _ _ _ hP hD hS (lv_sub hl [2, 3, 4, 5, 6, 1, 0] rfl)

abbrev rm_c_m_asks : Room := { frames := 2, cells := 0, slots := 0, locals := 60 }
set_option maxRecDepth 100000 in
set_option maxHeartbeats 4000000 in
theorem c_m_asks (l : Launch) (ε : EV) (m0 : Nat) (ad : Nat → Nat) (n : Nat → Int) (G : Nat → Nat → Int) (R : va_W) (i x y : Int) (ri : rg i) (rx : rg x) (ry : rg y) (hV1 : VPat n G) (hV : VLam n G) : CT l yX5_asks cX5_asks 4 (some .boolean) rm_c_m_asks ε [.ref m0, .int (iv i), .int (iv x), .int (iv y)] (wM ε m0 ad n G ++ R) (fun v w => ((¬ (0 ≤ i ∧ i < n 2)) ∧ v = some (.int (iv 0)) ∧ w = wM ε m0 ad (va_up n 5 1) G ++ R) ∨ (((0 ≤ i ∧ i < n 2) ∧ ¬ ((0 ≤ x ∧ x ≤ 31) ∧ 0 ≤ y ∧ y ≤ 31)) ∧ v = some (.int (iv 0)) ∧ w = wM ε m0 ad (va_up n 5 2) G ++ R) ∨ (((0 ≤ i ∧ i < n 2) ∧ ((0 ≤ x ∧ x ≤ 31) ∧ 0 ≤ y ∧ y ≤ 31)) ∧ v = some (.int (iv (bz true))) ∧ w = wM ε m0 ad (va_up n 5 0) G ++ R)) NX := by
  refine CT.intro (by decide +kernel) (Nat.le_of_ble_eq_true rfl) ?_
  intro p9 e9 s9 m9 a9 bl9 me9 c9 ls Q9 hC hE hP hD hl hQ
  have hx := hC.1
  have hb := hC.2.1
  have hK := hE.K
  have hS : WS ε s9.heap s9.heap [] := va_S.rf
  have hl : lv_has ls 4 [(0, .ref m0), (1, .int (iv i)), (2, .int (iv x)), (3, .int (iv y))] := hl
  obtain ⟨H, hH⟩ : ∃ H, H = s9.heap := ⟨_, rfl⟩
  obtain ⟨locs, hlo⟩ : ∃ z : List Loc, z = [] := ⟨_, rfl⟩
  rw [← hH] at hP ⊢
  have hS : WS ε s9.heap H locs := by rw [hH, hlo]; exact hS
  rw [← hlo]
  clear hH hlo
  have hn1 := hV1.1
  have hn2 := hV.1
  refine lv_aload_n (pc := 0) hx hb dX5_asks_0 rfl (lv_at hl 0 rfl) ?_
  refine lv_aload_n (pc := 1) hx hb dX5_asks_1 rfl (lv_at hl 0 rfl) ?_
  refine lv_iload_n (pc := 2) hx hb dX5_asks_2 rfl (lv_at hl 1 rfl) ?_
  refine c_callV (pc := 3) (y := yX5_isLamp) (As := [.int (iv i)]) (rest := [.ref m0]) hC hE hP hD hS hl.1 (c_m_isLamp l ε m0 ad n G R (i) ⟨by omega, by omega⟩ ⟨by omega, by omega⟩) m_14_18 m_14_19 m_14_20 m_0_5 m_14_21 wM_o rfl hd_yX5_isLamp rfl ⟨⟨by decide, by decide⟩, by decide, by decide⟩ (Nat.le_of_ble_eq_true rfl) rfl dX5_asks_3 kxN (fun v ws1 H locs hq hP hD hS => ?_)
  rw [hq.2] at hP hD
  rw [hq.1]
  dsimp only [Option.toList, List.cons_append, List.nil_append]
  refine r_if_b1 (pc := 6) (b := decide (0 ≤ i ∧ i < n 2)) hx hb dX5_asks_6 (tgt := 13) (by decide)  (fun c_6 => ?_) (fun c_6 => ?_)
  · replace c_6 := of_decide_eq_true c_6
    refine lv_iload_n (pc := 13) hx hb dX5_asks_13 rfl (lv_at hl 2 rfl) ?_
    refine lv_iload_n (pc := 14) hx hb dX5_asks_14 rfl (lv_at hl 3 rfl) ?_
    refine c_callS (pc := 15) (y := yX5_isPlace) (As := [.int (iv x), .int (iv y)]) (rest := [.ref m0]) hC hE hP hD hS hl.1 (c_m_isPlace l ε (wM ε m0 ad n G ++ R) (x) (y) ⟨by omega, by omega⟩ ⟨by omega, by omega⟩) m_13_23 m_13_24 m_0_5 m_14_0 hd_yX5_isPlace rfl ⟨⟨by decide, by decide⟩, by decide, by decide⟩ (Nat.le_of_ble_eq_true rfl) rfl dX5_asks_15 kxN (fun v ws1 H locs hq hP hD hS => ?_)
    rw [hq.2] at hP hD
    rw [hq.1]
    dsimp only [Option.toList, List.cons_append, List.nil_append]
    refine r_if_b0 (pc := 18) (b := decide ((0 ≤ x ∧ x ≤ 31) ∧ 0 ≤ y ∧ y ≤ 31)) hx hb dX5_asks_18 (tgt := 25) (by decide)  (fun c_18 => ?_) (fun c_18 => ?_)
    · replace c_18 := of_decide_eq_false c_18
      refine lv_iconst (pc := 25) (v := iv 2) hx hb dX5_asks_25 rfl ?_
      refine m_put5 (pc := 26) (v := 2) hC hK hP hD hS m_3_4 dX5_asks_26 (fun H locs hP hD hS => ?_)
      refine lv_aload_n (pc := 29) hx hb dX5_asks_29 rfl (lv_at hl 0 rfl) ?_
      refine r_get (pc := 30) hC hK hP wM_o (hc := rfl) (fun w h => wt_1 w h) 19 (by decide) m_3_4 (fun _ h => h) (v := .int (iv 2)) rfl dX5_asks_30 ?_
      refine r_if_ne (pc := 33) (a := 2) hx hb dX5_asks_33 (tgt := 40) (by decide) ⟨by omega, by omega⟩ (fun c_33 => ?_) (fun c_33 => ?_)
      · have c_33_ := c_33
        refine lv_iconst (pc := 40) (v := iv 0) hx hb dX5_asks_40 rfl ?_
        refine c_zret (pc := 41) hC hQ hP hD hS (by decide) (by decide) dX5_asks_41 nz_0 ?_
        exact Or.inr (Or.inl (⟨(by omega), rfl, rfl⟩))
      · exact absurd c_33 (by decide)
    · replace c_18 := of_decide_eq_true c_18
      refine lv_iconst (pc := 21) (v := iv 0) hx hb dX5_asks_21 rfl ?_
      refine lv_goto (pc := 22) (tgt := 26) hx hb dX5_asks_22 (by decide) ?_
      refine m_put5 (pc := 26) (v := 0) hC hK hP hD hS m_3_4 dX5_asks_26 (fun H locs hP hD hS => ?_)
      refine lv_aload_n (pc := 29) hx hb dX5_asks_29 rfl (lv_at hl 0 rfl) ?_
      refine r_get (pc := 30) hC hK hP wM_o (hc := rfl) (fun w h => wt_1 w h) 19 (by decide) m_3_4 (fun _ h => h) (v := .int (iv 0)) rfl dX5_asks_30 ?_
      refine r_if_ne (pc := 33) (a := 0) hx hb dX5_asks_33 (tgt := 40) (by decide) ⟨by omega, by omega⟩ (fun c_33 => ?_) (fun c_33 => ?_)
      · exact absurd c_33 (by decide)
      · have c_33_ := c_33
        refine lv_iconst (pc := 36) (v := iv 1) hx hb dX5_asks_36 rfl ?_
        refine lv_goto (pc := 37) (tgt := 41) hx hb dX5_asks_37 (by decide) ?_
        refine c_zret (pc := 41) hC hQ hP hD hS (by decide) (by decide) dX5_asks_41 nz_1 ?_
        exact Or.inr (Or.inr (⟨(by omega), rfl, rfl⟩))
  · replace c_6 := of_decide_eq_false c_6
    refine lv_iconst (pc := 9) (v := iv 1) hx hb dX5_asks_9 rfl ?_
    refine lv_goto (pc := 10) (tgt := 26) hx hb dX5_asks_10 (by decide) ?_
    refine m_put5 (pc := 26) (v := 1) hC hK hP hD hS m_3_4 dX5_asks_26 (fun H locs hP hD hS => ?_)
    refine lv_aload_n (pc := 29) hx hb dX5_asks_29 rfl (lv_at hl 0 rfl) ?_
    refine r_get (pc := 30) hC hK hP wM_o (hc := rfl) (fun w h => wt_1 w h) 19 (by decide) m_3_4 (fun _ h => h) (v := .int (iv 1)) rfl dX5_asks_30 ?_
    refine r_if_ne (pc := 33) (a := 1) hx hb dX5_asks_33 (tgt := 40) (by decide) ⟨by omega, by omega⟩ (fun c_33 => ?_) (fun c_33 => ?_)
    · have c_33_ := c_33
      refine lv_iconst (pc := 40) (v := iv 0) hx hb dX5_asks_40 rfl ?_
      refine c_zret (pc := 41) hC hQ hP hD hS (by decide) (by decide) dX5_asks_41 nz_0 ?_
      exact Or.inl (⟨(by omega), rfl, rfl⟩)
    · exact absurd c_33 (by decide)

abbrev rm_c_m_sector : Room := { frames := 3, cells := 0, slots := 0, locals := 90 }
set_option maxRecDepth 100000 in
set_option maxHeartbeats 4000000 in
theorem c_m_sector (l : Launch) (ε : EV) (m0 : Nat) (ad : Nat → Nat) (n : Nat → Int) (G : Nat → Nat → Int) (R : va_W) (i x y : Int) (ri : rg i) (rx : rg x) (ry : rg y) (hV1 : VPat n G) (hV : VLam n G) : CT l yX5_sector cX5_sector 4 (some .int) rm_c_m_sector ε [.ref m0, .int (iv i), .int (iv x), .int (iv y)] (wM ε m0 ad n G ++ R) (fun v w => ((¬ (0 ≤ i ∧ i < n 2)) ∧ v = some (.int (iv 0)) ∧ w = wM ε m0 ad (va_up n 5 1) G ++ R) ∨ (((0 ≤ i ∧ i < n 2) ∧ ¬ ((0 ≤ x ∧ x ≤ 31) ∧ 0 ≤ y ∧ y ≤ 31)) ∧ v = some (.int (iv 0)) ∧ w = wM ε m0 ad (va_up n 5 2) G ++ R) ∨ (((0 ≤ i ∧ i < n 2) ∧ ((0 ≤ x ∧ x ≤ 31) ∧ 0 ≤ y ∧ y ≤ 31)) ∧ v = some (.int (iv (sectP (x - G 4 i.toNat) (y - G 5 i.toNat)))) ∧ w = wM ε m0 ad (va_up n 5 0) G ++ R)) NX := by
  refine CT.intro (by decide +kernel) (Nat.le_of_ble_eq_true rfl) ?_
  intro p9 e9 s9 m9 a9 bl9 me9 c9 ls Q9 hC hE hP hD hl hQ
  have hx := hC.1
  have hb := hC.2.1
  have hK := hE.K
  have hS : WS ε s9.heap s9.heap [] := va_S.rf
  have hl : lv_has ls 4 [(0, .ref m0), (1, .int (iv i)), (2, .int (iv x)), (3, .int (iv y))] := hl
  obtain ⟨H, hH⟩ : ∃ H, H = s9.heap := ⟨_, rfl⟩
  obtain ⟨locs, hlo⟩ : ∃ z : List Loc, z = [] := ⟨_, rfl⟩
  rw [← hH] at hP ⊢
  have hS : WS ε s9.heap H locs := by rw [hH, hlo]; exact hS
  rw [← hlo]
  clear hH hlo
  have hn1 := hV1.1
  have hn2 := hV.1
  refine lv_aload_n (pc := 0) hx hb dX5_sector_0 rfl (lv_at hl 0 rfl) ?_
  refine lv_iload_n (pc := 1) hx hb dX5_sector_1 rfl (lv_at hl 1 rfl) ?_
  refine lv_iload_n (pc := 2) hx hb dX5_sector_2 rfl (lv_at hl 2 rfl) ?_
  refine lv_iload_n (pc := 3) hx hb dX5_sector_3 rfl (lv_at hl 3 rfl) ?_
  refine c_callV (pc := 4) (y := yX5_asks) (As := [.int (iv i), .int (iv x), .int (iv y)]) (rest := []) hC hE hP hD hS hl.1 (c_m_asks l ε m0 ad n G R i x y ri rx ry hV1 hV) m_16_19 m_16_20 m_16_21 m_0_5 m_16_22 wM_o rfl hd_yX5_asks rfl ⟨⟨by decide, by decide⟩, by decide, by decide⟩ (Nat.le_of_ble_eq_true rfl) rfl dX5_sector_4 kxN (fun v ws1 H locs hq hP hD hS => ?_)
  rcases hq with hq | hq | hq
  · obtain ⟨hq1, hq2, hq3⟩ := hq
    rw [hq3] at hP hD
    rw [hq2]
    dsimp only [Option.toList, List.cons_append, List.nil_append]
    refine r_if_eq (pc := 7) (a := 0) hx hb dX5_sector_7 (tgt := 20) (by decide) ⟨by omega, by omega⟩ (fun c_7 => ?_) (fun c_7 => ?_)
    · have c_7_ := c_7
      refine lv_iconst (pc := 20) (v := iv 0) hx hb dX5_sector_20 rfl ?_
      refine c_iret (pc := 21) hC hQ hP hD hS (by decide) (by decide) dX5_sector_21 ?_
      exact Or.inl (⟨hq1, rfl, rfl⟩)
    · exact absurd c_7 (by decide)
  · obtain ⟨hq1, hq2, hq3⟩ := hq
    rw [hq3] at hP hD
    rw [hq2]
    dsimp only [Option.toList, List.cons_append, List.nil_append]
    refine r_if_eq (pc := 7) (a := 0) hx hb dX5_sector_7 (tgt := 20) (by decide) ⟨by omega, by omega⟩ (fun c_7 => ?_) (fun c_7 => ?_)
    · have c_7_ := c_7
      refine lv_iconst (pc := 20) (v := iv 0) hx hb dX5_sector_20 rfl ?_
      refine c_iret (pc := 21) hC hQ hP hD hS (by decide) (by decide) dX5_sector_21 ?_
      exact Or.inr (Or.inl (⟨hq1, rfl, rfl⟩))
    · exact absurd c_7 (by decide)
  · obtain ⟨hq1, hq2, hq3⟩ := hq
    rw [hq3] at hP hD
    rw [hq2]
    dsimp only [Option.toList, List.cons_append, List.nil_append]
    refine r_if_eq (pc := 7) (a := 1) hx hb dX5_sector_7 (tgt := 20) (by decide) ⟨by omega, by omega⟩ (fun c_7 => ?_) (fun c_7 => ?_)
    · exact absurd c_7 (by decide)
    · have c_7_ := c_7
      refine lv_aload_n (pc := 10) hx hb dX5_sector_10 rfl (lv_at hl 0 rfl) ?_
      refine lv_iload_n (pc := 11) hx hb dX5_sector_11 rfl (lv_at hl 1 rfl) ?_
      refine lv_iload_n (pc := 12) hx hb dX5_sector_12 rfl (lv_at hl 2 rfl) ?_
      refine lv_iload_n (pc := 13) hx hb dX5_sector_13 rfl (lv_at hl 3 rfl) ?_
      refine c_callV (pc := 14) (y := yX5_sectorOf) (As := [.int (iv i), .int (iv x), .int (iv y)]) (rest := []) hC hE hP hD hS hl.1 (c_m_sectorOf l ε m0 ad (va_up n 5 0) G R (i) (x) (y) ⟨by omega, by omega⟩ (hV.i (by omega) (by omega)) ⟨⟨by omega, by omega⟩, by omega, by omega⟩) m_16_23 m_16_24 m_17_0 m_0_5 m_17_1 wM_o rfl hd_yX5_sectorOf rfl ⟨⟨by decide, by decide⟩, by decide, by decide⟩ (Nat.le_of_ble_eq_true rfl) rfl dX5_sector_14 kxN (fun v ws1 H locs hq hP hD hS => ?_)
      rw [hq.2] at hP hD
      rw [hq.1]
      dsimp only [Option.toList, List.cons_append, List.nil_append]
      refine lv_goto (pc := 17) (tgt := 21) hx hb dX5_sector_17 (by decide) ?_
      refine c_iret (pc := 21) hC hQ hP hD hS (by decide) (by decide) dX5_sector_21 ?_
      exact Or.inr (Or.inr (⟨hq1, rfl, rfl⟩))

abbrev rm_c_m_isSeen : Room := { frames := 3, cells := 0, slots := 0, locals := 90 }
set_option maxRecDepth 100000 in
set_option maxHeartbeats 4000000 in
theorem c_m_isSeen (l : Launch) (ε : EV) (m0 : Nat) (ad : Nat → Nat) (n : Nat → Int) (G : Nat → Nat → Int) (R : va_W) (i x y : Int) (ri : rg i) (rx : rg x) (ry : rg y) (hV1 : VPat n G) (hV : VLam n G) : CT l yX5_isSeen cX5_isSeen 4 (some .boolean) rm_c_m_isSeen ε [.ref m0, .int (iv i), .int (iv x), .int (iv y)] (wM ε m0 ad n G ++ R) (fun v w => ((¬ (0 ≤ i ∧ i < n 2)) ∧ v = some (.int (iv 0)) ∧ w = wM ε m0 ad (va_up n 5 1) G ++ R) ∨ (((0 ≤ i ∧ i < n 2) ∧ ¬ ((0 ≤ x ∧ x ≤ 31) ∧ 0 ≤ y ∧ y ≤ 31)) ∧ v = some (.int (iv 0)) ∧ w = wM ε m0 ad (va_up n 5 2) G ++ R) ∨ (((0 ≤ i ∧ i < n 2) ∧ ((0 ≤ x ∧ x ≤ 31) ∧ 0 ≤ y ∧ y ≤ 31)) ∧ v = some (.int (iv (bz (tb (SEES G i x y))))) ∧ w = wM ε m0 ad (va_up n 5 0) G ++ R)) NX := by
  refine CT.intro (by decide +kernel) (Nat.le_of_ble_eq_true rfl) ?_
  intro p9 e9 s9 m9 a9 bl9 me9 c9 ls Q9 hC hE hP hD hl hQ
  have hx := hC.1
  have hb := hC.2.1
  have hK := hE.K
  have hS : WS ε s9.heap s9.heap [] := va_S.rf
  have hl : lv_has ls 4 [(0, .ref m0), (1, .int (iv i)), (2, .int (iv x)), (3, .int (iv y))] := hl
  obtain ⟨H, hH⟩ : ∃ H, H = s9.heap := ⟨_, rfl⟩
  obtain ⟨locs, hlo⟩ : ∃ z : List Loc, z = [] := ⟨_, rfl⟩
  rw [← hH] at hP ⊢
  have hS : WS ε s9.heap H locs := by rw [hH, hlo]; exact hS
  rw [← hlo]
  clear hH hlo
  have hn1 := hV1.1
  have hn2 := hV.1
  refine lv_aload_n (pc := 0) hx hb dX5_isSeen_0 rfl (lv_at hl 0 rfl) ?_
  refine lv_iload_n (pc := 1) hx hb dX5_isSeen_1 rfl (lv_at hl 1 rfl) ?_
  refine lv_iload_n (pc := 2) hx hb dX5_isSeen_2 rfl (lv_at hl 2 rfl) ?_
  refine lv_iload_n (pc := 3) hx hb dX5_isSeen_3 rfl (lv_at hl 3 rfl) ?_
  refine c_callV (pc := 4) (y := yX5_asks) (As := [.int (iv i), .int (iv x), .int (iv y)]) (rest := []) hC hE hP hD hS hl.1 (c_m_asks l ε m0 ad n G R i x y ri rx ry hV1 hV) m_16_19 m_16_20 m_16_21 m_0_5 m_16_22 wM_o rfl hd_yX5_asks rfl ⟨⟨by decide, by decide⟩, by decide, by decide⟩ (Nat.le_of_ble_eq_true rfl) rfl dX5_isSeen_4 kxN (fun v ws1 H locs hq hP hD hS => ?_)
  rcases hq with hq | hq | hq
  · obtain ⟨hq1, hq2, hq3⟩ := hq
    rw [hq3] at hP hD
    rw [hq2]
    dsimp only [Option.toList, List.cons_append, List.nil_append]
    refine r_if_eq (pc := 7) (a := 0) hx hb dX5_isSeen_7 (tgt := 24) (by decide) ⟨by omega, by omega⟩ (fun c_7 => ?_) (fun c_7 => ?_)
    · have c_7_ := c_7
      refine lv_iconst (pc := 24) (v := iv 0) hx hb dX5_isSeen_24 rfl ?_
      refine c_zret (pc := 25) hC hQ hP hD hS (by decide) (by decide) dX5_isSeen_25 nz_0 ?_
      exact Or.inl (⟨hq1, rfl, rfl⟩)
    · exact absurd c_7 (by decide)
  · obtain ⟨hq1, hq2, hq3⟩ := hq
    rw [hq3] at hP hD
    rw [hq2]
    dsimp only [Option.toList, List.cons_append, List.nil_append]
    refine r_if_eq (pc := 7) (a := 0) hx hb dX5_isSeen_7 (tgt := 24) (by decide) ⟨by omega, by omega⟩ (fun c_7 => ?_) (fun c_7 => ?_)
    · have c_7_ := c_7
      refine lv_iconst (pc := 24) (v := iv 0) hx hb dX5_isSeen_24 rfl ?_
      refine c_zret (pc := 25) hC hQ hP hD hS (by decide) (by decide) dX5_isSeen_25 nz_0 ?_
      exact Or.inr (Or.inl (⟨hq1, rfl, rfl⟩))
    · exact absurd c_7 (by decide)
  · obtain ⟨hq1, hq2, hq3⟩ := hq
    rw [hq3] at hP hD
    rw [hq2]
    dsimp only [Option.toList, List.cons_append, List.nil_append]
    refine r_if_eq (pc := 7) (a := 1) hx hb dX5_isSeen_7 (tgt := 24) (by decide) ⟨by omega, by omega⟩ (fun c_7 => ?_) (fun c_7 => ?_)
    · exact absurd c_7 (by decide)
    · have c_7_ := c_7
      refine lv_aload_n (pc := 10) hx hb dX5_isSeen_10 rfl (lv_at hl 0 rfl) ?_
      refine lv_iload_n (pc := 11) hx hb dX5_isSeen_11 rfl (lv_at hl 1 rfl) ?_
      refine lv_iload_n (pc := 12) hx hb dX5_isSeen_12 rfl (lv_at hl 2 rfl) ?_
      refine lv_iload_n (pc := 13) hx hb dX5_isSeen_13 rfl (lv_at hl 3 rfl) ?_
      refine c_callV (pc := 14) (y := yX5_sees) (As := [.int (iv i), .int (iv x), .int (iv y)]) (rest := []) hC hE hP hD hS hl.1 (c_m_sees l ε m0 ad (va_up n 5 0) G R (i) (x) (y) ⟨by omega, by omega⟩ (hV.i (by omega) (by omega)) ⟨⟨by omega, by omega⟩, by omega, by omega⟩) m_17_17 m_17_18 m_17_19 m_0_5 m_17_20 wM_o rfl hd_yX5_sees rfl ⟨⟨by decide, by decide⟩, by decide, by decide⟩ (Nat.le_of_ble_eq_true rfl) rfl dX5_isSeen_14 kxN (fun v ws1 H locs hq hP hD hS => ?_)
      rw [hq.2] at hP hD
      rw [hq.1]
      dsimp only [Option.toList, List.cons_append, List.nil_append]
      refine r_if_b0 (pc := 17) (b := tb (SEES G i x y)) hx hb dX5_isSeen_17 (tgt := 24) (by decide)  (fun c_17 => ?_) (fun c_17 => ?_)
      · replace c_17 := tb_no c_17
        refine lv_iconst (pc := 24) (v := iv 0) hx hb dX5_isSeen_24 rfl ?_
        refine c_zret (pc := 25) hC hQ hP hD hS (by decide) (by decide) dX5_isSeen_25 nz_0 ?_
        exact Or.inr (Or.inr (⟨hq1, congrArg (fun z => some (Value.int z)) (bz_0 (tb_f c_17)), rfl⟩))
      · replace c_17 := tb_iff.mp c_17
        refine lv_iconst (pc := 20) (v := iv 1) hx hb dX5_isSeen_20 rfl ?_
        refine lv_goto (pc := 21) (tgt := 25) hx hb dX5_isSeen_21 (by decide) ?_
        refine c_zret (pc := 25) hC hQ hP hD hS (by decide) (by decide) dX5_isSeen_25 nz_1 ?_
        exact Or.inr (Or.inr (⟨hq1, congrArg (fun z => some (Value.int z)) (bz_1 (tb_t c_17)), rfl⟩))

abbrev rm_c_m_common : Room := { frames := 4, cells := 0, slots := 0, locals := 110 }
set_option maxRecDepth 100000 in
set_option maxHeartbeats 4000000 in
theorem c_m_common (l : Launch) (ε : EV) (m0 : Nat) (ad : Nat → Nat) (n : Nat → Int) (G : Nat → Nat → Int) (R : va_W) (i j : Int) (ri : rg i) (rj : rg j) (hV1 : VPat n G) (hV : VLam n G) : CT l yX5_common cX5_common 3 (some .int) rm_c_m_common ε [.ref m0, .int (iv i), .int (iv j)] (wM ε m0 ad n G ++ R) (fun v w => ((¬ ((0 ≤ i ∧ i < n 2) ∧ 0 ≤ j ∧ j < n 2)) ∧ v = some (.int (iv 0)) ∧ w = wM ε m0 ad (va_up n 5 1) G ++ R) ∨ (((0 ≤ i ∧ i < n 2) ∧ 0 ≤ j ∧ j < n 2) ∧ v = some (.int (iv (COMM G i j))) ∧ w = wM ε m0 ad (va_up n 5 0) G ++ R)) NX := by
  refine CT.intro (by decide +kernel) (Nat.le_of_ble_eq_true rfl) ?_
  intro p9 e9 s9 m9 a9 bl9 me9 c9 ls Q9 hC hE hP hD hl hQ
  have hx := hC.1
  have hb := hC.2.1
  have hK := hE.K
  have hS : WS ε s9.heap s9.heap [] := va_S.rf
  have hl : lv_has ls 3 [(0, .ref m0), (1, .int (iv i)), (2, .int (iv j))] := hl
  obtain ⟨H, hH⟩ : ∃ H, H = s9.heap := ⟨_, rfl⟩
  obtain ⟨locs, hlo⟩ : ∃ z : List Loc, z = [] := ⟨_, rfl⟩
  rw [← hH] at hP ⊢
  have hS : WS ε s9.heap H locs := by rw [hH, hlo]; exact hS
  rw [← hlo]
  clear hH hlo
  have hn1 := hV1.1
  have hn2 := hV.1
  refine lv_aload_n (pc := 0) hx hb dX5_common_0 rfl (lv_at hl 0 rfl) ?_
  refine lv_aload_n (pc := 1) hx hb dX5_common_1 rfl (lv_at hl 0 rfl) ?_
  refine lv_iload_n (pc := 2) hx hb dX5_common_2 rfl (lv_at hl 1 rfl) ?_
  refine c_callV (pc := 3) (y := yX5_isLamp) (As := [.int (iv i)]) (rest := [.ref m0]) hC hE hP hD hS hl.1 (c_m_isLamp l ε m0 ad n G R (i) ⟨by omega, by omega⟩ ⟨by omega, by omega⟩) m_14_18 m_14_19 m_14_20 m_0_5 m_14_21 wM_o rfl hd_yX5_isLamp rfl ⟨⟨by decide, by decide⟩, by decide, by decide⟩ (Nat.le_of_ble_eq_true rfl) rfl dX5_common_3 kxN (fun v ws1 H locs hq hP hD hS => ?_)
  rw [hq.2] at hP hD
  rw [hq.1]
  dsimp only [Option.toList, List.cons_append, List.nil_append]
  refine r_if_b0 (pc := 6) (b := decide (0 ≤ i ∧ i < n 2)) hx hb dX5_common_6 (tgt := 21) (by decide)  (fun c_6 => ?_) (fun c_6 => ?_)
  · replace c_6 := of_decide_eq_false c_6
    refine lv_iconst (pc := 21) (v := iv 1) hx hb dX5_common_21 rfl ?_
    refine m_put5 (pc := 22) (v := 1) hC hK hP hD hS m_3_4 dX5_common_22 (fun H locs hP hD hS => ?_)
    refine lv_aload_n (pc := 25) hx hb dX5_common_25 rfl (lv_at hl 0 rfl) ?_
    refine r_get (pc := 26) hC hK hP wM_o (hc := rfl) (fun w h => wt_1 w h) 19 (by decide) m_3_4 (fun _ h => h) (v := .int (iv 1)) rfl dX5_common_26 ?_
    refine r_if_le (pc := 29) (a := 1) hx hb dX5_common_29 (tgt := 36) (by decide) ⟨by omega, by omega⟩ (fun c_29 => ?_) (fun c_29 => ?_)
    · exact absurd c_29 (by decide)
    · have c_29_ := c_29
      refine lv_iconst (pc := 32) (v := iv 0) hx hb dX5_common_32 rfl ?_
      refine lv_goto (pc := 33) (tgt := 42) hx hb dX5_common_33 (by decide) ?_
      refine c_iret (pc := 42) hC hQ hP hD hS (by decide) (by decide) dX5_common_42 ?_
      exact Or.inl (⟨(by omega), rfl, rfl⟩)
  · replace c_6 := of_decide_eq_true c_6
    refine lv_aload_n (pc := 9) hx hb dX5_common_9 rfl (lv_at hl 0 rfl) ?_
    refine lv_iload_n (pc := 10) hx hb dX5_common_10 rfl (lv_at hl 2 rfl) ?_
    refine c_callV (pc := 11) (y := yX5_isLamp) (As := [.int (iv j)]) (rest := [.ref m0]) hC hE hP hD hS hl.1 (c_m_isLamp l ε m0 ad n G R (j) ⟨by omega, by omega⟩ ⟨by omega, by omega⟩) m_14_18 m_14_19 m_14_20 m_0_5 m_14_21 wM_o rfl hd_yX5_isLamp rfl ⟨⟨by decide, by decide⟩, by decide, by decide⟩ (Nat.le_of_ble_eq_true rfl) rfl dX5_common_11 kxN (fun v ws1 H locs hq hP hD hS => ?_)
    rw [hq.2] at hP hD
    rw [hq.1]
    dsimp only [Option.toList, List.cons_append, List.nil_append]
    refine r_if_b0 (pc := 14) (b := decide (0 ≤ j ∧ j < n 2)) hx hb dX5_common_14 (tgt := 21) (by decide)  (fun c_14 => ?_) (fun c_14 => ?_)
    · replace c_14 := of_decide_eq_false c_14
      refine lv_iconst (pc := 21) (v := iv 1) hx hb dX5_common_21 rfl ?_
      refine m_put5 (pc := 22) (v := 1) hC hK hP hD hS m_3_4 dX5_common_22 (fun H locs hP hD hS => ?_)
      refine lv_aload_n (pc := 25) hx hb dX5_common_25 rfl (lv_at hl 0 rfl) ?_
      refine r_get (pc := 26) hC hK hP wM_o (hc := rfl) (fun w h => wt_1 w h) 19 (by decide) m_3_4 (fun _ h => h) (v := .int (iv 1)) rfl dX5_common_26 ?_
      refine r_if_le (pc := 29) (a := 1) hx hb dX5_common_29 (tgt := 36) (by decide) ⟨by omega, by omega⟩ (fun c_29 => ?_) (fun c_29 => ?_)
      · exact absurd c_29 (by decide)
      · have c_29_ := c_29
        refine lv_iconst (pc := 32) (v := iv 0) hx hb dX5_common_32 rfl ?_
        refine lv_goto (pc := 33) (tgt := 42) hx hb dX5_common_33 (by decide) ?_
        refine c_iret (pc := 42) hC hQ hP hD hS (by decide) (by decide) dX5_common_42 ?_
        exact Or.inl (⟨(by omega), rfl, rfl⟩)
    · replace c_14 := of_decide_eq_true c_14
      refine lv_iconst (pc := 17) (v := iv 0) hx hb dX5_common_17 rfl ?_
      refine lv_goto (pc := 18) (tgt := 22) hx hb dX5_common_18 (by decide) ?_
      refine m_put5 (pc := 22) (v := 0) hC hK hP hD hS m_3_4 dX5_common_22 (fun H locs hP hD hS => ?_)
      refine lv_aload_n (pc := 25) hx hb dX5_common_25 rfl (lv_at hl 0 rfl) ?_
      refine r_get (pc := 26) hC hK hP wM_o (hc := rfl) (fun w h => wt_1 w h) 19 (by decide) m_3_4 (fun _ h => h) (v := .int (iv 0)) rfl dX5_common_26 ?_
      refine r_if_le (pc := 29) (a := 0) hx hb dX5_common_29 (tgt := 36) (by decide) ⟨by omega, by omega⟩ (fun c_29 => ?_) (fun c_29 => ?_)
      · have c_29_ := c_29
        refine lv_aload_n (pc := 36) hx hb dX5_common_36 rfl (lv_at hl 0 rfl) ?_
        refine lv_iload_n (pc := 37) hx hb dX5_common_37 rfl (lv_at hl 1 rfl) ?_
        refine lv_iload_n (pc := 38) hx hb dX5_common_38 rfl (lv_at hl 2 rfl) ?_
        refine c_callV (pc := 39) (y := yX5_both) (As := [.int (iv i), .int (iv j)]) (rest := []) hC hE hP hD hS hl.1 (c_m_both l ε m0 ad (va_up n 5 0) G R (i) (j) ⟨by omega, by omega⟩ (hV.i (by omega) (by omega)) ⟨by omega, by omega⟩ (hV.i (by omega) (by omega))) m_18_18 m_18_19 m_18_20 m_0_5 m_18_21 wM_o rfl hd_yX5_both rfl ⟨⟨by decide, by decide⟩, by decide, by decide⟩ (Nat.le_of_ble_eq_true rfl) rfl dX5_common_39 kxN (fun v ws1 H locs hq hP hD hS => ?_)
        rw [hq.2] at hP hD
        rw [hq.1]
        dsimp only [Option.toList, List.cons_append, List.nil_append]
        refine c_iret (pc := 42) hC hQ hP hD hS (by decide) (by decide) dX5_common_42 ?_
        exact Or.inr (⟨(by omega), rfl, rfl⟩)
      · exact absurd c_29 (by decide)

abbrev rm_c_m_asksAlike : Room := { frames := 4, cells := 0, slots := 0, locals := 110 }
set_option maxRecDepth 100000 in
set_option maxHeartbeats 4000000 in
theorem c_m_asksAlike (l : Launch) (ε : EV) (m0 : Nat) (ad : Nat → Nat) (n : Nat → Int) (G : Nat → Nat → Int) (R : va_W) (q r : Int) (rq : rg q) (rr : rg r) (hV1 : VPat n G) (hV : VLam n G) : CT l yX5_asksAlike cX5_asksAlike 3 (some .boolean) rm_c_m_asksAlike ε [.ref m0, .int (iv q), .int (iv r)] (wM ε m0 ad n G ++ R) (fun v w => ((¬ ((0 ≤ q ∧ q < n 1) ∧ 0 ≤ r ∧ r < n 1)) ∧ v = some (.int (iv 0)) ∧ w = wM ε m0 ad (va_up n 5 1) G ++ R) ∨ (((0 ≤ q ∧ q < n 1) ∧ 0 ≤ r ∧ r < n 1) ∧ v = some (.int (iv (bz (tb (AK (LQ G q) (LQ G r) (G 3 q.toNat) (G 3 r.toNat)))))) ∧ w = wM ε m0 ad (va_up n 5 0) G ++ R)) NX := by
  refine CT.intro (by decide +kernel) (Nat.le_of_ble_eq_true rfl) ?_
  intro p9 e9 s9 m9 a9 bl9 me9 c9 ls Q9 hC hE hP hD hl hQ
  have hx := hC.1
  have hb := hC.2.1
  have hK := hE.K
  have hS : WS ε s9.heap s9.heap [] := va_S.rf
  have hl : lv_has ls 3 [(0, .ref m0), (1, .int (iv q)), (2, .int (iv r))] := hl
  obtain ⟨H, hH⟩ : ∃ H, H = s9.heap := ⟨_, rfl⟩
  obtain ⟨locs, hlo⟩ : ∃ z : List Loc, z = [] := ⟨_, rfl⟩
  rw [← hH] at hP ⊢
  have hS : WS ε s9.heap H locs := by rw [hH, hlo]; exact hS
  rw [← hlo]
  clear hH hlo
  have hn1 := hV1.1
  have hn2 := hV.1
  refine lv_aload_n (pc := 0) hx hb dX5_asksAlike_0 rfl (lv_at hl 0 rfl) ?_
  refine lv_aload_n (pc := 1) hx hb dX5_asksAlike_1 rfl (lv_at hl 0 rfl) ?_
  refine lv_iload_n (pc := 2) hx hb dX5_asksAlike_2 rfl (lv_at hl 1 rfl) ?_
  refine c_callV (pc := 3) (y := yX5_isPattern) (As := [.int (iv q)]) (rest := [.ref m0]) hC hE hP hD hS hl.1 (c_m_isPattern l ε m0 ad n G R (q) ⟨by omega, by omega⟩ ⟨by omega, by omega⟩) m_8_22 m_8_23 m_8_24 m_0_5 m_9_0 wM_o rfl hd_yX5_isPattern rfl ⟨⟨by decide, by decide⟩, by decide, by decide⟩ (Nat.le_of_ble_eq_true rfl) rfl dX5_asksAlike_3 kxN (fun v ws1 H locs hq hP hD hS => ?_)
  rw [hq.2] at hP hD
  rw [hq.1]
  dsimp only [Option.toList, List.cons_append, List.nil_append]
  refine r_if_b0 (pc := 6) (b := decide (0 ≤ q ∧ q < n 1)) hx hb dX5_asksAlike_6 (tgt := 21) (by decide)  (fun c_6 => ?_) (fun c_6 => ?_)
  · replace c_6 := of_decide_eq_false c_6
    refine lv_iconst (pc := 21) (v := iv 1) hx hb dX5_asksAlike_21 rfl ?_
    refine m_put5 (pc := 22) (v := 1) hC hK hP hD hS m_3_4 dX5_asksAlike_22 (fun H locs hP hD hS => ?_)
    refine lv_aload_n (pc := 25) hx hb dX5_asksAlike_25 rfl (lv_at hl 0 rfl) ?_
    refine r_get (pc := 26) hC hK hP wM_o (hc := rfl) (fun w h => wt_1 w h) 19 (by decide) m_3_4 (fun _ h => h) (v := .int (iv 1)) rfl dX5_asksAlike_26 ?_
    refine r_if_ne (pc := 29) (a := 1) hx hb dX5_asksAlike_29 (tgt := 45) (by decide) ⟨by omega, by omega⟩ (fun c_29 => ?_) (fun c_29 => ?_)
    · have c_29_ := c_29
      refine lv_iconst (pc := 45) (v := iv 0) hx hb dX5_asksAlike_45 rfl ?_
      refine c_zret (pc := 46) hC hQ hP hD hS (by decide) (by decide) dX5_asksAlike_46 nz_0 ?_
      exact Or.inl (⟨(by omega), rfl, rfl⟩)
    · exact absurd c_29 (by decide)
  · replace c_6 := of_decide_eq_true c_6
    refine lv_aload_n (pc := 9) hx hb dX5_asksAlike_9 rfl (lv_at hl 0 rfl) ?_
    refine lv_iload_n (pc := 10) hx hb dX5_asksAlike_10 rfl (lv_at hl 2 rfl) ?_
    refine c_callV (pc := 11) (y := yX5_isPattern) (As := [.int (iv r)]) (rest := [.ref m0]) hC hE hP hD hS hl.1 (c_m_isPattern l ε m0 ad n G R (r) ⟨by omega, by omega⟩ ⟨by omega, by omega⟩) m_8_22 m_8_23 m_8_24 m_0_5 m_9_0 wM_o rfl hd_yX5_isPattern rfl ⟨⟨by decide, by decide⟩, by decide, by decide⟩ (Nat.le_of_ble_eq_true rfl) rfl dX5_asksAlike_11 kxN (fun v ws1 H locs hq hP hD hS => ?_)
    rw [hq.2] at hP hD
    rw [hq.1]
    dsimp only [Option.toList, List.cons_append, List.nil_append]
    refine r_if_b0 (pc := 14) (b := decide (0 ≤ r ∧ r < n 1)) hx hb dX5_asksAlike_14 (tgt := 21) (by decide)  (fun c_14 => ?_) (fun c_14 => ?_)
    · replace c_14 := of_decide_eq_false c_14
      refine lv_iconst (pc := 21) (v := iv 1) hx hb dX5_asksAlike_21 rfl ?_
      refine m_put5 (pc := 22) (v := 1) hC hK hP hD hS m_3_4 dX5_asksAlike_22 (fun H locs hP hD hS => ?_)
      refine lv_aload_n (pc := 25) hx hb dX5_asksAlike_25 rfl (lv_at hl 0 rfl) ?_
      refine r_get (pc := 26) hC hK hP wM_o (hc := rfl) (fun w h => wt_1 w h) 19 (by decide) m_3_4 (fun _ h => h) (v := .int (iv 1)) rfl dX5_asksAlike_26 ?_
      refine r_if_ne (pc := 29) (a := 1) hx hb dX5_asksAlike_29 (tgt := 45) (by decide) ⟨by omega, by omega⟩ (fun c_29 => ?_) (fun c_29 => ?_)
      · have c_29_ := c_29
        refine lv_iconst (pc := 45) (v := iv 0) hx hb dX5_asksAlike_45 rfl ?_
        refine c_zret (pc := 46) hC hQ hP hD hS (by decide) (by decide) dX5_asksAlike_46 nz_0 ?_
        exact Or.inl (⟨(by omega), rfl, rfl⟩)
      · exact absurd c_29 (by decide)
    · replace c_14 := of_decide_eq_true c_14
      refine lv_iconst (pc := 17) (v := iv 0) hx hb dX5_asksAlike_17 rfl ?_
      refine lv_goto (pc := 18) (tgt := 22) hx hb dX5_asksAlike_18 (by decide) ?_
      refine m_put5 (pc := 22) (v := 0) hC hK hP hD hS m_3_4 dX5_asksAlike_22 (fun H locs hP hD hS => ?_)
      refine lv_aload_n (pc := 25) hx hb dX5_asksAlike_25 rfl (lv_at hl 0 rfl) ?_
      refine r_get (pc := 26) hC hK hP wM_o (hc := rfl) (fun w h => wt_1 w h) 19 (by decide) m_3_4 (fun _ h => h) (v := .int (iv 0)) rfl dX5_asksAlike_26 ?_
      refine r_if_ne (pc := 29) (a := 0) hx hb dX5_asksAlike_29 (tgt := 45) (by decide) ⟨by omega, by omega⟩ (fun c_29 => ?_) (fun c_29 => ?_)
      · exact absurd c_29 (by decide)
      · have c_29_ := c_29
        refine lv_aload_n (pc := 32) hx hb dX5_asksAlike_32 rfl (lv_at hl 0 rfl) ?_
        refine lv_iload_n (pc := 33) hx hb dX5_asksAlike_33 rfl (lv_at hl 1 rfl) ?_
        refine lv_iload_n (pc := 34) hx hb dX5_asksAlike_34 rfl (lv_at hl 2 rfl) ?_
        refine c_callV (pc := 35) (y := yX5_alike) (As := [.int (iv q), .int (iv r)]) (rest := []) hC hE hP hD hS hl.1 (c_m_alike l ε m0 ad (va_up n 5 0) G R (q) (r) ⟨by omega, by omega⟩ (hV1.q (by omega) (by omega)) ⟨by omega, by omega⟩ (hV1.q (by omega) (by omega))) m_9_24 m_10_0 m_10_1 m_0_5 m_10_2 wM_o rfl hd_yX5_alike rfl ⟨⟨by decide, by decide⟩, by decide, by decide⟩ (Nat.le_of_ble_eq_true rfl) rfl dX5_asksAlike_35 kxN (fun v ws1 H locs hq hP hD hS => ?_)
        rw [hq.2] at hP hD
        rw [hq.1]
        dsimp only [Option.toList, List.cons_append, List.nil_append]
        refine r_if_b0 (pc := 38) (b := tb (AK (LQ G q) (LQ G r) (G 3 q.toNat) (G 3 r.toNat))) hx hb dX5_asksAlike_38 (tgt := 45) (by decide)  (fun c_38 => ?_) (fun c_38 => ?_)
        · replace c_38 := tb_no c_38
          refine lv_iconst (pc := 45) (v := iv 0) hx hb dX5_asksAlike_45 rfl ?_
          refine c_zret (pc := 46) hC hQ hP hD hS (by decide) (by decide) dX5_asksAlike_46 nz_0 ?_
          exact Or.inr (⟨(by omega), congrArg (fun z => some (Value.int z)) (bz_0 (tb_f c_38)), rfl⟩)
        · replace c_38 := tb_iff.mp c_38
          refine lv_iconst (pc := 41) (v := iv 1) hx hb dX5_asksAlike_41 rfl ?_
          refine lv_goto (pc := 42) (tgt := 46) hx hb dX5_asksAlike_42 (by decide) ?_
          refine c_zret (pc := 46) hC hQ hP hD hS (by decide) (by decide) dX5_asksAlike_46 nz_1 ?_
          exact Or.inr (⟨(by omega), congrArg (fun z => some (Value.int z)) (bz_1 (tb_t c_38)), rfl⟩)

abbrev rm_c_m_areAlike : Room := { frames := 5, cells := 0, slots := 0, locals := 140 }
set_option maxRecDepth 100000 in
set_option maxHeartbeats 4000000 in
theorem c_m_areAlike (l : Launch) (ε : EV) (m0 : Nat) (ad : Nat → Nat) (n : Nat → Int) (G : Nat → Nat → Int) (R : va_W) (q r : Int) (rq : rg q) (rr : rg r) (hV1 : VPat n G) (hV : VLam n G) : CT l yX5_areAlike cX5_areAlike 3 (some .boolean) rm_c_m_areAlike ε [.ref m0, .int (iv q), .int (iv r)] (wM ε m0 ad n G ++ R) (fun v w => ((¬ ((0 ≤ q ∧ q < n 1) ∧ 0 ≤ r ∧ r < n 1)) ∧ v = some (.int (iv 0)) ∧ w = wM ε m0 ad (va_up n 5 1) G ++ R) ∨ (((0 ≤ q ∧ q < n 1) ∧ 0 ≤ r ∧ r < n 1) ∧ v = some (.int (iv (bz (tb (AK (LQ G q) (LQ G r) (G 3 q.toNat) (G 3 r.toNat)))))) ∧ w = wM ε m0 ad (va_up n 5 0) G ++ R)) NX := by
  refine CT.intro (by decide +kernel) (Nat.le_of_ble_eq_true rfl) ?_
  intro p9 e9 s9 m9 a9 bl9 me9 c9 ls Q9 hC hE hP hD hl hQ
  have hx := hC.1
  have hb := hC.2.1
  have hK := hE.K
  have hS : WS ε s9.heap s9.heap [] := va_S.rf
  have hl : lv_has ls 3 [(0, .ref m0), (1, .int (iv q)), (2, .int (iv r))] := hl
  obtain ⟨H, hH⟩ : ∃ H, H = s9.heap := ⟨_, rfl⟩
  obtain ⟨locs, hlo⟩ : ∃ z : List Loc, z = [] := ⟨_, rfl⟩
  rw [← hH] at hP ⊢
  have hS : WS ε s9.heap H locs := by rw [hH, hlo]; exact hS
  rw [← hlo]
  clear hH hlo
  have hn1 := hV1.1
  have hn2 := hV.1
  refine lv_aload_n (pc := 0) hx hb dX5_areAlike_0 rfl (lv_at hl 0 rfl) ?_
  refine lv_iload_n (pc := 1) hx hb dX5_areAlike_1 rfl (lv_at hl 1 rfl) ?_
  refine lv_iload_n (pc := 2) hx hb dX5_areAlike_2 rfl (lv_at hl 2 rfl) ?_
  refine c_callV (pc := 3) (y := yX5_asksAlike) (As := [.int (iv q), .int (iv r)]) (rest := []) hC hE hP hD hS hl.1 (c_m_asksAlike l ε m0 ad n G R q r rq rr hV1 hV) m_9_20 m_9_21 m_9_22 m_0_5 m_9_23 wM_o rfl hd_yX5_asksAlike rfl ⟨⟨by decide, by decide⟩, by decide, by decide⟩ (Nat.le_of_ble_eq_true rfl) rfl dX5_areAlike_3 kxN (fun v ws1 H locs hq hP hD hS => ?_)
  rcases hq with hq | hq
  · obtain ⟨hq1, hq2, hq3⟩ := hq
    rw [hq3] at hP hD
    rw [hq2]
    dsimp only [Option.toList, List.cons_append, List.nil_append]
    refine c_zret (pc := 6) hC hQ hP hD hS (by decide) (by decide) dX5_areAlike_6 nz_0 ?_
    exact Or.inl (⟨hq1, rfl, rfl⟩)
  · obtain ⟨hq1, hq2, hq3⟩ := hq
    rw [hq3] at hP hD
    rw [hq2]
    dsimp only [Option.toList, List.cons_append, List.nil_append]
    refine c_zret (pc := 6) hC hQ hP hD hS (by decide) (by decide) dX5_areAlike_6 (nz_b _) ?_
    exact Or.inr (⟨hq1, rfl, rfl⟩)

abbrev rm_c_m_areAlikeBySeconds : Room := { frames := 5, cells := 0, slots := 0, locals := 140 }
set_option maxRecDepth 100000 in
set_option maxHeartbeats 4000000 in
theorem c_m_areAlikeBySeconds (l : Launch) (ε : EV) (m0 : Nat) (ad : Nat → Nat) (n : Nat → Int) (G : Nat → Nat → Int) (R : va_W) (q r : Int) (rq : rg q) (rr : rg r) (hV1 : VPat n G) (hV : VLam n G) : CT l yX5_areAlikeBySeconds cX5_areAlikeBySeconds 3 (some .boolean) rm_c_m_areAlikeBySeconds ε [.ref m0, .int (iv q), .int (iv r)] (wM ε m0 ad n G ++ R) (fun v w => ((¬ ((0 ≤ q ∧ q < n 1) ∧ 0 ≤ r ∧ r < n 1)) ∧ v = some (.int (iv 0)) ∧ w = wM ε m0 ad (va_up n 5 1) G ++ R) ∨ (((0 ≤ q ∧ q < n 1) ∧ 0 ≤ r ∧ r < n 1) ∧ v = some (.int (iv (bz (tb (AK (LQ G q) (LQ G r) (G 3 q.toNat) (G 3 r.toNat)))))) ∧ w = wM ε m0 ad (va_up n 5 0) G ++ R)) NX := by
  refine CT.intro (by decide +kernel) (Nat.le_of_ble_eq_true rfl) ?_
  intro p9 e9 s9 m9 a9 bl9 me9 c9 ls Q9 hC hE hP hD hl hQ
  have hx := hC.1
  have hb := hC.2.1
  have hK := hE.K
  have hS : WS ε s9.heap s9.heap [] := va_S.rf
  have hl : lv_has ls 3 [(0, .ref m0), (1, .int (iv q)), (2, .int (iv r))] := hl
  obtain ⟨H, hH⟩ : ∃ H, H = s9.heap := ⟨_, rfl⟩
  obtain ⟨locs, hlo⟩ : ∃ z : List Loc, z = [] := ⟨_, rfl⟩
  rw [← hH] at hP ⊢
  have hS : WS ε s9.heap H locs := by rw [hH, hlo]; exact hS
  rw [← hlo]
  clear hH hlo
  have hn1 := hV1.1
  have hn2 := hV.1
  refine lv_aload_n (pc := 0) hx hb dX5_areAlikeBySeconds_0 rfl (lv_at hl 0 rfl) ?_
  refine lv_iload_n (pc := 1) hx hb dX5_areAlikeBySeconds_1 rfl (lv_at hl 1 rfl) ?_
  refine lv_iload_n (pc := 2) hx hb dX5_areAlikeBySeconds_2 rfl (lv_at hl 2 rfl) ?_
  refine c_callV (pc := 3) (y := yX5_asksAlike) (As := [.int (iv q), .int (iv r)]) (rest := []) hC hE hP hD hS hl.1 (c_m_asksAlike l ε m0 ad n G R q r rq rr hV1 hV) m_9_20 m_9_21 m_9_22 m_0_5 m_9_23 wM_o rfl hd_yX5_asksAlike rfl ⟨⟨by decide, by decide⟩, by decide, by decide⟩ (Nat.le_of_ble_eq_true rfl) rfl dX5_areAlikeBySeconds_3 kxN (fun v ws1 H locs hq hP hD hS => ?_)
  rcases hq with hq | hq
  · obtain ⟨hq1, hq2, hq3⟩ := hq
    rw [hq3] at hP hD
    rw [hq2]
    dsimp only [Option.toList, List.cons_append, List.nil_append]
    refine c_zret (pc := 6) hC hQ hP hD hS (by decide) (by decide) dX5_areAlikeBySeconds_6 nz_0 ?_
    exact Or.inl (⟨hq1, rfl, rfl⟩)
  · obtain ⟨hq1, hq2, hq3⟩ := hq
    rw [hq3] at hP hD
    rw [hq2]
    dsimp only [Option.toList, List.cons_append, List.nil_append]
    refine c_zret (pc := 6) hC hQ hP hD hS (by decide) (by decide) dX5_areAlikeBySeconds_6 (nz_b _) ?_
    exact Or.inr (⟨hq1, rfl, rfl⟩)

abbrev rm_c_m_shines : Room := { frames := 4, cells := 0, slots := 0, locals := 110 }
set_option maxRecDepth 100000 in
set_option maxHeartbeats 4000000 in
theorem c_m_shines (l : Launch) (ε : EV) (m0 : Nat) (ad : Nat → Nat) (n : Nat → Int) (G : Nat → Nat → Int) (R : va_W) (i t : Int) (ri : rg i) (rt : rg t) (hV1 : VPat n G) (hV : VLam n G) : CT l yX5_shines cX5_shines 3 (some .boolean) rm_c_m_shines ε [.ref m0, .int (iv i), .int (iv t)] (wM ε m0 ad n G ++ R) (fun v w => ((¬ (0 ≤ i ∧ i < n 2)) ∧ v = some (.int (iv 0)) ∧ w = wM ε m0 ad (va_up n 5 1) G ++ R) ∨ (((0 ≤ i ∧ i < n 2) ∧ ¬ (0 ≤ t ∧ t ≤ 100000)) ∧ v = some (.int (iv 0)) ∧ w = wM ε m0 ad (va_up n 5 2) G ++ R) ∨ (((0 ≤ i ∧ i < n 2) ∧ (0 ≤ t ∧ t ≤ 100000)) ∧ v = some (.int (iv (bz (ON G i t)))) ∧ w = wM ε m0 ad (va_up n 5 0) G ++ R)) NX := by
  refine CT.intro (by decide +kernel) (Nat.le_of_ble_eq_true rfl) ?_
  intro p9 e9 s9 m9 a9 bl9 me9 c9 ls Q9 hC hE hP hD hl hQ
  have hx := hC.1
  have hb := hC.2.1
  have hK := hE.K
  have hS : WS ε s9.heap s9.heap [] := va_S.rf
  have hl : lv_has ls 3 [(0, .ref m0), (1, .int (iv i)), (2, .int (iv t))] := hl
  obtain ⟨H, hH⟩ : ∃ H, H = s9.heap := ⟨_, rfl⟩
  obtain ⟨locs, hlo⟩ : ∃ z : List Loc, z = [] := ⟨_, rfl⟩
  rw [← hH] at hP ⊢
  have hS : WS ε s9.heap H locs := by rw [hH, hlo]; exact hS
  rw [← hlo]
  clear hH hlo
  have hn1 := hV1.1
  have hn2 := hV.1
  refine lv_aload_n (pc := 0) hx hb dX5_shines_0 rfl (lv_at hl 0 rfl) ?_
  refine lv_aload_n (pc := 1) hx hb dX5_shines_1 rfl (lv_at hl 0 rfl) ?_
  refine lv_iload_n (pc := 2) hx hb dX5_shines_2 rfl (lv_at hl 1 rfl) ?_
  refine c_callV (pc := 3) (y := yX5_isLamp) (As := [.int (iv i)]) (rest := [.ref m0]) hC hE hP hD hS hl.1 (c_m_isLamp l ε m0 ad n G R (i) ⟨by omega, by omega⟩ ⟨by omega, by omega⟩) m_14_18 m_14_19 m_14_20 m_0_5 m_14_21 wM_o rfl hd_yX5_isLamp rfl ⟨⟨by decide, by decide⟩, by decide, by decide⟩ (Nat.le_of_ble_eq_true rfl) rfl dX5_shines_3 kxN (fun v ws1 H locs hq hP hD hS => ?_)
  rw [hq.2] at hP hD
  rw [hq.1]
  dsimp only [Option.toList, List.cons_append, List.nil_append]
  refine r_if_b1 (pc := 6) (b := decide (0 ≤ i ∧ i < n 2)) hx hb dX5_shines_6 (tgt := 13) (by decide)  (fun c_6 => ?_) (fun c_6 => ?_)
  · replace c_6 := of_decide_eq_true c_6
    refine lv_iload_n (pc := 13) hx hb dX5_shines_13 rfl (lv_at hl 2 rfl) ?_
    refine lv_iconst (pc := 14) (v := iv 0) hx hb dX5_shines_14 rfl ?_
    refine lv_ldc (pc := 15) (own := RX5) (v := iv 100000) hx hb hC.2.2.2.1 (by rw [show iv 100000 = (100000 : Int32) by decide]; exact hC.2.2.2.2.1 _ m_16_0) dX5_shines_15 ?_
    refine c_callS (pc := 17) (y := yX5_isIn) (As := [.int (iv t), .int (iv 0), .int (iv 100000)]) (rest := [.ref m0]) hC hE hP hD hS hl.1 (c_m_isIn l ε (wM ε m0 ad n G ++ R) (t) (0) (100000) ⟨by omega, by omega⟩ ⟨by omega, by omega⟩ ⟨by omega, by omega⟩) m_3_5 m_3_6 m_0_5 m_3_7 hd_yX5_isIn rfl ⟨⟨by decide, by decide⟩, by decide, by decide⟩ (Nat.le_of_ble_eq_true rfl) rfl dX5_shines_17 kxN (fun v ws1 H locs hq hP hD hS => ?_)
    rw [hq.2] at hP hD
    rw [hq.1]
    dsimp only [Option.toList, List.cons_append, List.nil_append]
    refine r_if_b0 (pc := 20) (b := decide (0 ≤ t ∧ t ≤ 100000)) hx hb dX5_shines_20 (tgt := 27) (by decide)  (fun c_20 => ?_) (fun c_20 => ?_)
    · replace c_20 := of_decide_eq_false c_20
      refine lv_iconst (pc := 27) (v := iv 2) hx hb dX5_shines_27 rfl ?_
      refine m_put5 (pc := 28) (v := 2) hC hK hP hD hS m_3_4 dX5_shines_28 (fun H locs hP hD hS => ?_)
      refine lv_aload_n (pc := 31) hx hb dX5_shines_31 rfl (lv_at hl 0 rfl) ?_
      refine r_get (pc := 32) hC hK hP wM_o (hc := rfl) (fun w h => wt_1 w h) 19 (by decide) m_3_4 (fun _ h => h) (v := .int (iv 2)) rfl dX5_shines_32 ?_
      refine r_if_ne (pc := 35) (a := 2) hx hb dX5_shines_35 (tgt := 51) (by decide) ⟨by omega, by omega⟩ (fun c_35 => ?_) (fun c_35 => ?_)
      · have c_35_ := c_35
        refine lv_iconst (pc := 51) (v := iv 0) hx hb dX5_shines_51 rfl ?_
        refine c_zret (pc := 52) hC hQ hP hD hS (by decide) (by decide) dX5_shines_52 nz_0 ?_
        exact Or.inr (Or.inl (⟨(by omega), rfl, rfl⟩))
      · exact absurd c_35 (by decide)
    · replace c_20 := of_decide_eq_true c_20
      refine lv_iconst (pc := 23) (v := iv 0) hx hb dX5_shines_23 rfl ?_
      refine lv_goto (pc := 24) (tgt := 28) hx hb dX5_shines_24 (by decide) ?_
      refine m_put5 (pc := 28) (v := 0) hC hK hP hD hS m_3_4 dX5_shines_28 (fun H locs hP hD hS => ?_)
      refine lv_aload_n (pc := 31) hx hb dX5_shines_31 rfl (lv_at hl 0 rfl) ?_
      refine r_get (pc := 32) hC hK hP wM_o (hc := rfl) (fun w h => wt_1 w h) 19 (by decide) m_3_4 (fun _ h => h) (v := .int (iv 0)) rfl dX5_shines_32 ?_
      refine r_if_ne (pc := 35) (a := 0) hx hb dX5_shines_35 (tgt := 51) (by decide) ⟨by omega, by omega⟩ (fun c_35 => ?_) (fun c_35 => ?_)
      · exact absurd c_35 (by decide)
      · have c_35_ := c_35
        have hlv := hV.i (q := i) (by omega) (by omega)
        refine lv_aload_n (pc := 38) hx hb dX5_shines_38 rfl (lv_at hl 0 rfl) ?_
        refine lv_iload_n (pc := 39) hx hb dX5_shines_39 rfl (lv_at hl 1 rfl) ?_
        refine lv_iload_n (pc := 40) hx hb dX5_shines_40 rfl (lv_at hl 2 rfl) ?_
        refine c_callV (pc := 41) (y := yX5_isOn) (As := [.int (iv i), .int (iv t)]) (rest := []) hC hE hP hD hS hl.1 (c_m_isOn l ε m0 ad (va_up n 5 0) G R (i) (t) ⟨by omega, by omega⟩ (hV.i (by omega) (by omega)) (hV1.q hlv.2.2.1.1 hlv.2.2.1.2) hn1.2 ⟨by omega, by omega⟩) m_16_1 m_16_2 m_16_3 m_0_5 m_16_4 wM_o rfl hd_yX5_isOn rfl ⟨⟨by decide, by decide⟩, by decide, by decide⟩ (Nat.le_of_ble_eq_true rfl) rfl dX5_shines_41 kxN (fun v ws1 H locs hq hP hD hS => ?_)
        rw [hq.2] at hP hD
        rw [hq.1]
        dsimp only [Option.toList, List.cons_append, List.nil_append]
        refine r_if_b0 (pc := 44) (b := ON G i t) hx hb dX5_shines_44 (tgt := 51) (by decide)  (fun c_44 => ?_) (fun c_44 => ?_)
        · have c_44_ := c_44
          refine lv_iconst (pc := 51) (v := iv 0) hx hb dX5_shines_51 rfl ?_
          refine c_zret (pc := 52) hC hQ hP hD hS (by decide) (by decide) dX5_shines_52 nz_0 ?_
          exact Or.inr (Or.inr (⟨(by omega), congrArg (fun z => some (Value.int z)) (bz_0 c_44), rfl⟩))
        · have c_44_ := c_44
          refine lv_iconst (pc := 47) (v := iv 1) hx hb dX5_shines_47 rfl ?_
          refine lv_goto (pc := 48) (tgt := 52) hx hb dX5_shines_48 (by decide) ?_
          refine c_zret (pc := 52) hC hQ hP hD hS (by decide) (by decide) dX5_shines_52 nz_1 ?_
          exact Or.inr (Or.inr (⟨(by omega), congrArg (fun z => some (Value.int z)) (bz_1 c_44), rfl⟩))
  · replace c_6 := of_decide_eq_false c_6
    refine lv_iconst (pc := 9) (v := iv 1) hx hb dX5_shines_9 rfl ?_
    refine lv_goto (pc := 10) (tgt := 28) hx hb dX5_shines_10 (by decide) ?_
    refine m_put5 (pc := 28) (v := 1) hC hK hP hD hS m_3_4 dX5_shines_28 (fun H locs hP hD hS => ?_)
    refine lv_aload_n (pc := 31) hx hb dX5_shines_31 rfl (lv_at hl 0 rfl) ?_
    refine r_get (pc := 32) hC hK hP wM_o (hc := rfl) (fun w h => wt_1 w h) 19 (by decide) m_3_4 (fun _ h => h) (v := .int (iv 1)) rfl dX5_shines_32 ?_
    refine r_if_ne (pc := 35) (a := 1) hx hb dX5_shines_35 (tgt := 51) (by decide) ⟨by omega, by omega⟩ (fun c_35 => ?_) (fun c_35 => ?_)
    · have c_35_ := c_35
      refine lv_iconst (pc := 51) (v := iv 0) hx hb dX5_shines_51 rfl ?_
      refine c_zret (pc := 52) hC hQ hP hD hS (by decide) (by decide) dX5_shines_52 nz_0 ?_
      exact Or.inl (⟨(by omega), rfl, rfl⟩)
    · exact absurd c_35 (by decide)

abbrev rm_c_m_thrown : Room := { frames := 0, cells := 0, slots := 0, locals := 0 }
set_option maxRecDepth 100000 in
set_option maxHeartbeats 4000000 in
theorem c_m_thrown (l : Launch) (ε : EV) (m0 : Nat) (ad : Nat → Nat) (n : Nat → Int) (G : Nat → Nat → Int) (R : va_W)  : CT l yX5_thrown cX5_thrown 1 (some .int) rm_c_m_thrown ε [.ref m0] (wM ε m0 ad n G ++ R) (fun v w => v = some (.int (iv (n 5))) ∧ w = wM ε m0 ad n G ++ R) NX := by
  refine CT.intro (by decide +kernel) (Nat.le_of_ble_eq_true rfl) ?_
  intro p9 e9 s9 m9 a9 bl9 me9 c9 ls Q9 hC hE hP hD hl hQ
  have hx := hC.1
  have hb := hC.2.1
  have hK := hE.K
  have hS : WS ε s9.heap s9.heap [] := va_S.rf
  have hl : lv_has ls 1 [(0, .ref m0)] := hl
  obtain ⟨H, hH⟩ : ∃ H, H = s9.heap := ⟨_, rfl⟩
  obtain ⟨locs, hlo⟩ : ∃ z : List Loc, z = [] := ⟨_, rfl⟩
  rw [← hH] at hP ⊢
  have hS : WS ε s9.heap H locs := by rw [hH, hlo]; exact hS
  rw [← hlo]
  clear hH hlo
  refine lv_aload_n (pc := 0) hx hb dX5_thrown_0 rfl (lv_at hl 0 rfl) ?_
  refine r_get (pc := 1) hC hK hP wM_o (hc := rfl) (fun w h => wt_1 w h) 19 (by decide) m_3_4 (fun _ h => h) (v := .int (iv (n 5))) rfl dX5_thrown_1 ?_
  refine c_iret (pc := 4) hC hQ hP hD hS (by decide) (by decide) dX5_thrown_4 ?_
  exact ⟨rfl, rfl⟩

abbrev rm_c_m_notices : Room := { frames := 0, cells := 0, slots := 0, locals := 0 }
set_option maxRecDepth 100000 in
set_option maxHeartbeats 4000000 in
theorem c_m_notices (l : Launch) (ε : EV) (m0 : Nat) (ad : Nat → Nat) (n : Nat → Int) (G : Nat → Nat → Int) (R : va_W)  : CT l yX5_notices cX5_notices 1 (some .int) rm_c_m_notices ε [.ref m0] (wM ε m0 ad n G ++ R) (fun v w => v = some (.int (iv (n 3))) ∧ w = wM ε m0 ad (va_up n 5 0) G ++ R) NX := by
  refine CT.intro (by decide +kernel) (Nat.le_of_ble_eq_true rfl) ?_
  intro p9 e9 s9 m9 a9 bl9 me9 c9 ls Q9 hC hE hP hD hl hQ
  have hx := hC.1
  have hb := hC.2.1
  have hK := hE.K
  have hS : WS ε s9.heap s9.heap [] := va_S.rf
  have hl : lv_has ls 1 [(0, .ref m0)] := hl
  obtain ⟨H, hH⟩ : ∃ H, H = s9.heap := ⟨_, rfl⟩
  obtain ⟨locs, hlo⟩ : ∃ z : List Loc, z = [] := ⟨_, rfl⟩
  rw [← hH] at hP ⊢
  have hS : WS ε s9.heap H locs := by rw [hH, hlo]; exact hS
  rw [← hlo]
  clear hH hlo
  refine lv_aload_n (pc := 0) hx hb dX5_notices_0 rfl (lv_at hl 0 rfl) ?_
  refine lv_iconst (pc := 1) (v := iv 0) hx hb dX5_notices_1 rfl ?_
  refine m_put5 (pc := 2) (v := 0) hC hK hP hD hS m_3_4 dX5_notices_2 (fun H locs hP hD hS => ?_)
  refine lv_aload_n (pc := 5) hx hb dX5_notices_5 rfl (lv_at hl 0 rfl) ?_
  refine r_get (pc := 6) hC hK hP wM_o (hc := rfl) (fun w h => wt_1 w h) 15 (by decide) m_14_5 (fun _ h => h) (v := .int (iv (n 3))) rfl dX5_notices_6 ?_
  refine c_iret (pc := 9) hC hQ hP hD hS (by decide) (by decide) dX5_notices_9 ?_
  exact ⟨rfl, rfl⟩

abbrev rm_c_m_period : Room := { frames := 3, cells := 0, slots := 0, locals := 80 }
set_option maxRecDepth 100000 in
set_option maxHeartbeats 4000000 in
theorem c_m_period (l : Launch) (ε : EV) (m0 : Nat) (ad : Nat → Nat) (n : Nat → Int) (G : Nat → Nat → Int) (R : va_W) (q : Int) (rq : rg q) (hV1 : VPat n G) (hV : VLam n G) : CT l yX5_period cX5_period 2 (some .int) rm_c_m_period ε [.ref m0, .int (iv q)] (wM ε m0 ad n G ++ R) (fun v w => ((¬ (0 ≤ q ∧ q < n 1)) ∧ v = some (.int (iv 0)) ∧ w = wM ε m0 ad (va_up n 5 1) G ++ R) ∨ ((0 ≤ q ∧ q < n 1) ∧ v = some (.int (iv (G 3 q.toNat))) ∧ w = wM ε m0 ad (va_up n 5 0) G ++ R)) NX := by
  refine CT.intro (by decide +kernel) (Nat.le_of_ble_eq_true rfl) ?_
  intro p9 e9 s9 m9 a9 bl9 me9 c9 ls Q9 hC hE hP hD hl hQ
  have hx := hC.1
  have hb := hC.2.1
  have hK := hE.K
  have hS : WS ε s9.heap s9.heap [] := va_S.rf
  have hl : lv_has ls 2 [(0, .ref m0), (1, .int (iv q))] := hl
  obtain ⟨H, hH⟩ : ∃ H, H = s9.heap := ⟨_, rfl⟩
  obtain ⟨locs, hlo⟩ : ∃ z : List Loc, z = [] := ⟨_, rfl⟩
  rw [← hH] at hP ⊢
  have hS : WS ε s9.heap H locs := by rw [hH, hlo]; exact hS
  rw [← hlo]
  clear hH hlo
  have hn1 := hV1.1
  have hn2 := hV.1
  refine lv_aload_n (pc := 0) hx hb dX5_period_0 rfl (lv_at hl 0 rfl) ?_
  refine lv_aload_n (pc := 1) hx hb dX5_period_1 rfl (lv_at hl 0 rfl) ?_
  refine lv_iload_n (pc := 2) hx hb dX5_period_2 rfl (lv_at hl 1 rfl) ?_
  refine c_callV (pc := 3) (y := yX5_isPattern) (As := [.int (iv q)]) (rest := [.ref m0]) hC hE hP hD hS hl.1 (c_m_isPattern l ε m0 ad n G R (q) ⟨by omega, by omega⟩ ⟨by omega, by omega⟩) m_8_22 m_8_23 m_8_24 m_0_5 m_9_0 wM_o rfl hd_yX5_isPattern rfl ⟨⟨by decide, by decide⟩, by decide, by decide⟩ (Nat.le_of_ble_eq_true rfl) rfl dX5_period_3 kxN (fun v ws1 H locs hq hP hD hS => ?_)
  rw [hq.2] at hP hD
  rw [hq.1]
  dsimp only [Option.toList, List.cons_append, List.nil_append]
  refine r_if_b0 (pc := 6) (b := decide (0 ≤ q ∧ q < n 1)) hx hb dX5_period_6 (tgt := 13) (by decide)  (fun c_6 => ?_) (fun c_6 => ?_)
  · replace c_6 := of_decide_eq_false c_6
    refine lv_iconst (pc := 13) (v := iv 1) hx hb dX5_period_13 rfl ?_
    refine m_put5 (pc := 14) (v := 1) hC hK hP hD hS m_3_4 dX5_period_14 (fun H locs hP hD hS => ?_)
    refine lv_aload_n (pc := 17) hx hb dX5_period_17 rfl (lv_at hl 0 rfl) ?_
    refine r_get (pc := 18) hC hK hP wM_o (hc := rfl) (fun w h => wt_1 w h) 19 (by decide) m_3_4 (fun _ h => h) (v := .int (iv 1)) rfl dX5_period_18 ?_
    refine r_if_le (pc := 21) (a := 1) hx hb dX5_period_21 (tgt := 28) (by decide) ⟨by omega, by omega⟩ (fun c_21 => ?_) (fun c_21 => ?_)
    · exact absurd c_21 (by decide)
    · have c_21_ := c_21
      refine lv_iconst (pc := 24) (v := iv 0) hx hb dX5_period_24 rfl ?_
      refine lv_goto (pc := 25) (tgt := 34) hx hb dX5_period_25 (by decide) ?_
      refine c_iret (pc := 34) hC hQ hP hD hS (by decide) (by decide) dX5_period_34 ?_
      exact Or.inl (⟨(by omega), rfl, rfl⟩)
  · replace c_6 := of_decide_eq_true c_6
    refine lv_iconst (pc := 9) (v := iv 0) hx hb dX5_period_9 rfl ?_
    refine lv_goto (pc := 10) (tgt := 14) hx hb dX5_period_10 (by decide) ?_
    refine m_put5 (pc := 14) (v := 0) hC hK hP hD hS m_3_4 dX5_period_14 (fun H locs hP hD hS => ?_)
    refine lv_aload_n (pc := 17) hx hb dX5_period_17 rfl (lv_at hl 0 rfl) ?_
    refine r_get (pc := 18) hC hK hP wM_o (hc := rfl) (fun w h => wt_1 w h) 19 (by decide) m_3_4 (fun _ h => h) (v := .int (iv 0)) rfl dX5_period_18 ?_
    refine r_if_le (pc := 21) (a := 0) hx hb dX5_period_21 (tgt := 28) (by decide) ⟨by omega, by omega⟩ (fun c_21 => ?_) (fun c_21 => ?_)
    · have c_21_ := c_21
      refine lv_aload_n (pc := 28) hx hb dX5_period_28 rfl (lv_at hl 0 rfl) ?_
      refine r_get (pc := 29) hC hK hP wM_o (hc := rfl) (fun w h => wt_1 w h) 5 (by decide) m_1_20 (fun _ h => h) (v := .ref (ad 3)) rfl dX5_period_29 ?_
      refine lv_iload_n (pc := 32) hx hb dX5_period_32 rfl (lv_at hl 1 rfl) ?_
      refine r_iald (pc := 33) (z := q) hC hK hP wM_3 ⟨by omega, by omega, by decide⟩ dX5_period_33 ?_
      refine c_iret (pc := 34) hC hQ hP hD hS (by decide) (by decide) dX5_period_34 ?_
      exact Or.inr (⟨(by omega), rfl, rfl⟩)
    · exact absurd c_21 (by decide)

abbrev rm_c_m_behind : Room := { frames := 3, cells := 0, slots := 0, locals := 80 }
set_option maxRecDepth 100000 in
set_option maxHeartbeats 4000000 in
theorem c_m_behind (l : Launch) (ε : EV) (m0 : Nat) (ad : Nat → Nat) (n : Nat → Int) (G : Nat → Nat → Int) (R : va_W) (ch : Int) (rc : rg ch) (hV1 : VPat n G) (hV : VLam n G) (hV4 : 0 ≤ n 4 ∧ n 4 ≤ 10) : CT l yX5_behind cX5_behind 2 (some .int) rm_c_m_behind ε [.ref m0, .int (iv ch)] (wM ε m0 ad n G ++ R) (fun v w => ((¬ (0 ≤ ch ∧ ch < n 4)) ∧ v = some (.int (iv 0)) ∧ w = wM ε m0 ad (va_up n 5 1) G ++ R) ∨ ((0 ≤ ch ∧ ch < n 4) ∧ v = some (.int (iv (n 3 - G 12 ch.toNat))) ∧ w = wM ε m0 ad (va_up n 5 0) G ++ R)) NX := by
  refine CT.intro (by decide +kernel) (Nat.le_of_ble_eq_true rfl) ?_
  intro p9 e9 s9 m9 a9 bl9 me9 c9 ls Q9 hC hE hP hD hl hQ
  have hx := hC.1
  have hb := hC.2.1
  have hK := hE.K
  have hS : WS ε s9.heap s9.heap [] := va_S.rf
  have hl : lv_has ls 2 [(0, .ref m0), (1, .int (iv ch))] := hl
  obtain ⟨H, hH⟩ : ∃ H, H = s9.heap := ⟨_, rfl⟩
  obtain ⟨locs, hlo⟩ : ∃ z : List Loc, z = [] := ⟨_, rfl⟩
  rw [← hH] at hP ⊢
  have hS : WS ε s9.heap H locs := by rw [hH, hlo]; exact hS
  rw [← hlo]
  clear hH hlo
  have hn1 := hV1.1
  have hn2 := hV.1
  refine lv_aload_n (pc := 0) hx hb dX5_behind_0 rfl (lv_at hl 0 rfl) ?_
  refine lv_aload_n (pc := 1) hx hb dX5_behind_1 rfl (lv_at hl 0 rfl) ?_
  refine lv_iload_n (pc := 2) hx hb dX5_behind_2 rfl (lv_at hl 1 rfl) ?_
  refine c_callV (pc := 3) (y := yX5_isChart) (As := [.int (iv ch)]) (rest := [.ref m0]) hC hE hP hD hS hl.1 (c_m_isChart l ε m0 ad n G R (ch) ⟨by omega, by omega⟩ ⟨by omega, by omega⟩) m_22_3 m_22_4 m_22_5 m_0_5 m_22_6 wM_o rfl hd_yX5_isChart rfl ⟨⟨by decide, by decide⟩, by decide, by decide⟩ (Nat.le_of_ble_eq_true rfl) rfl dX5_behind_3 kxN (fun v ws1 H locs hq hP hD hS => ?_)
  rw [hq.2] at hP hD
  rw [hq.1]
  dsimp only [Option.toList, List.cons_append, List.nil_append]
  refine r_if_b0 (pc := 6) (b := decide (0 ≤ ch ∧ ch < n 4)) hx hb dX5_behind_6 (tgt := 13) (by decide)  (fun c_6 => ?_) (fun c_6 => ?_)
  · replace c_6 := of_decide_eq_false c_6
    refine lv_iconst (pc := 13) (v := iv 1) hx hb dX5_behind_13 rfl ?_
    refine m_put5 (pc := 14) (v := 1) hC hK hP hD hS m_3_4 dX5_behind_14 (fun H locs hP hD hS => ?_)
    refine lv_aload_n (pc := 17) hx hb dX5_behind_17 rfl (lv_at hl 0 rfl) ?_
    refine r_get (pc := 18) hC hK hP wM_o (hc := rfl) (fun w h => wt_1 w h) 19 (by decide) m_3_4 (fun _ h => h) (v := .int (iv 1)) rfl dX5_behind_18 ?_
    refine r_if_le (pc := 21) (a := 1) hx hb dX5_behind_21 (tgt := 28) (by decide) ⟨by omega, by omega⟩ (fun c_21 => ?_) (fun c_21 => ?_)
    · exact absurd c_21 (by decide)
    · have c_21_ := c_21
      refine lv_iconst (pc := 24) (v := iv 0) hx hb dX5_behind_24 rfl ?_
      refine lv_goto (pc := 25) (tgt := 39) hx hb dX5_behind_25 (by decide) ?_
      refine c_iret (pc := 39) hC hQ hP hD hS (by decide) (by decide) dX5_behind_39 ?_
      exact Or.inl (⟨(by omega), rfl, rfl⟩)
  · replace c_6 := of_decide_eq_true c_6
    refine lv_iconst (pc := 9) (v := iv 0) hx hb dX5_behind_9 rfl ?_
    refine lv_goto (pc := 10) (tgt := 14) hx hb dX5_behind_10 (by decide) ?_
    refine m_put5 (pc := 14) (v := 0) hC hK hP hD hS m_3_4 dX5_behind_14 (fun H locs hP hD hS => ?_)
    refine lv_aload_n (pc := 17) hx hb dX5_behind_17 rfl (lv_at hl 0 rfl) ?_
    refine r_get (pc := 18) hC hK hP wM_o (hc := rfl) (fun w h => wt_1 w h) 19 (by decide) m_3_4 (fun _ h => h) (v := .int (iv 0)) rfl dX5_behind_18 ?_
    refine r_if_le (pc := 21) (a := 0) hx hb dX5_behind_21 (tgt := 28) (by decide) ⟨by omega, by omega⟩ (fun c_21 => ?_) (fun c_21 => ?_)
    · have c_21_ := c_21
      refine lv_aload_n (pc := 28) hx hb dX5_behind_28 rfl (lv_at hl 0 rfl) ?_
      refine r_get (pc := 29) hC hK hP wM_o (hc := rfl) (fun w h => wt_1 w h) 15 (by decide) m_14_5 (fun _ h => h) (v := .int (iv (n 3))) rfl dX5_behind_29 ?_
      refine lv_aload_n (pc := 32) hx hb dX5_behind_32 rfl (lv_at hl 0 rfl) ?_
      refine r_get (pc := 33) hC hK hP wM_o (hc := rfl) (fun w h => wt_1 w h) 17 (by decide) m_2_5 (fun _ h => h) (v := .ref (ad 12)) rfl dX5_behind_33 ?_
      refine lv_iload_n (pc := 36) hx hb dX5_behind_36 rfl (lv_at hl 1 rfl) ?_
      refine r_iald (pc := 37) (z := ch) hC hK hP wM_12 ⟨by omega, by omega, by decide⟩ dX5_behind_37 ?_
      refine r_isub (pc := 38) (a := n 3) (b := G 12 ch.toNat) hx hb dX5_behind_38 ?_
      refine c_iret (pc := 39) hC hQ hP hD hS (by decide) (by decide) dX5_behind_39 ?_
      exact Or.inr (⟨(by omega), rfl, rfl⟩)
    · exact absurd c_21 (by decide)

abbrev rm_c_m_shown : Room := { frames := 3, cells := 0, slots := 0, locals := 80 }
set_option maxRecDepth 100000 in
set_option maxHeartbeats 4000000 in
theorem c_m_shown (l : Launch) (ε : EV) (m0 : Nat) (ad : Nat → Nat) (n : Nat → Int) (G : Nat → Nat → Int) (R : va_W) (ch i : Int) (rc : rg ch) (ri : rg i) (hV1 : VPat n G) (hV : VLam n G) (hV4 : 0 ≤ n 4 ∧ n 4 ≤ 10) : CT l yX5_shown cX5_shown 3 (some .int) rm_c_m_shown ε [.ref m0, .int (iv ch), .int (iv i)] (wM ε m0 ad n G ++ R) (fun v w => ((¬ ((0 ≤ ch ∧ ch < n 4) ∧ 0 ≤ i ∧ i < n 2)) ∧ v = some (.int (iv 0)) ∧ w = wM ε m0 ad (va_up n 5 1) G ++ R) ∨ (((0 ≤ ch ∧ ch < n 4) ∧ 0 ≤ i ∧ i < n 2) ∧ v = some (.int (iv (G 13 (12 * ch + i).toNat))) ∧ w = wM ε m0 ad (va_up n 5 0) G ++ R)) NX := by
  refine CT.intro (by decide +kernel) (Nat.le_of_ble_eq_true rfl) ?_
  intro p9 e9 s9 m9 a9 bl9 me9 c9 ls Q9 hC hE hP hD hl hQ
  have hx := hC.1
  have hb := hC.2.1
  have hK := hE.K
  have hS : WS ε s9.heap s9.heap [] := va_S.rf
  have hl : lv_has ls 3 [(0, .ref m0), (1, .int (iv ch)), (2, .int (iv i))] := hl
  obtain ⟨H, hH⟩ : ∃ H, H = s9.heap := ⟨_, rfl⟩
  obtain ⟨locs, hlo⟩ : ∃ z : List Loc, z = [] := ⟨_, rfl⟩
  rw [← hH] at hP ⊢
  have hS : WS ε s9.heap H locs := by rw [hH, hlo]; exact hS
  rw [← hlo]
  clear hH hlo
  have hn1 := hV1.1
  have hn2 := hV.1
  refine lv_aload_n (pc := 0) hx hb dX5_shown_0 rfl (lv_at hl 0 rfl) ?_
  refine lv_aload_n (pc := 1) hx hb dX5_shown_1 rfl (lv_at hl 0 rfl) ?_
  refine lv_iload_n (pc := 2) hx hb dX5_shown_2 rfl (lv_at hl 1 rfl) ?_
  refine c_callV (pc := 3) (y := yX5_isChart) (As := [.int (iv ch)]) (rest := [.ref m0]) hC hE hP hD hS hl.1 (c_m_isChart l ε m0 ad n G R (ch) ⟨by omega, by omega⟩ ⟨by omega, by omega⟩) m_22_3 m_22_4 m_22_5 m_0_5 m_22_6 wM_o rfl hd_yX5_isChart rfl ⟨⟨by decide, by decide⟩, by decide, by decide⟩ (Nat.le_of_ble_eq_true rfl) rfl dX5_shown_3 kxN (fun v ws1 H locs hq hP hD hS => ?_)
  rw [hq.2] at hP hD
  rw [hq.1]
  dsimp only [Option.toList, List.cons_append, List.nil_append]
  refine r_if_b0 (pc := 6) (b := decide (0 ≤ ch ∧ ch < n 4)) hx hb dX5_shown_6 (tgt := 21) (by decide)  (fun c_6 => ?_) (fun c_6 => ?_)
  · replace c_6 := of_decide_eq_false c_6
    refine lv_iconst (pc := 21) (v := iv 1) hx hb dX5_shown_21 rfl ?_
    refine m_put5 (pc := 22) (v := 1) hC hK hP hD hS m_3_4 dX5_shown_22 (fun H locs hP hD hS => ?_)
    refine lv_aload_n (pc := 25) hx hb dX5_shown_25 rfl (lv_at hl 0 rfl) ?_
    refine r_get (pc := 26) hC hK hP wM_o (hc := rfl) (fun w h => wt_1 w h) 19 (by decide) m_3_4 (fun _ h => h) (v := .int (iv 1)) rfl dX5_shown_26 ?_
    refine r_if_le (pc := 29) (a := 1) hx hb dX5_shown_29 (tgt := 36) (by decide) ⟨by omega, by omega⟩ (fun c_29 => ?_) (fun c_29 => ?_)
    · exact absurd c_29 (by decide)
    · have c_29_ := c_29
      refine lv_iconst (pc := 32) (v := iv 0) hx hb dX5_shown_32 rfl ?_
      refine lv_goto (pc := 33) (tgt := 47) hx hb dX5_shown_33 (by decide) ?_
      refine c_iret (pc := 47) hC hQ hP hD hS (by decide) (by decide) dX5_shown_47 ?_
      exact Or.inl (⟨(by omega), rfl, rfl⟩)
  · replace c_6 := of_decide_eq_true c_6
    refine lv_aload_n (pc := 9) hx hb dX5_shown_9 rfl (lv_at hl 0 rfl) ?_
    refine lv_iload_n (pc := 10) hx hb dX5_shown_10 rfl (lv_at hl 2 rfl) ?_
    refine c_callV (pc := 11) (y := yX5_isLamp) (As := [.int (iv i)]) (rest := [.ref m0]) hC hE hP hD hS hl.1 (c_m_isLamp l ε m0 ad n G R (i) ⟨by omega, by omega⟩ ⟨by omega, by omega⟩) m_14_18 m_14_19 m_14_20 m_0_5 m_14_21 wM_o rfl hd_yX5_isLamp rfl ⟨⟨by decide, by decide⟩, by decide, by decide⟩ (Nat.le_of_ble_eq_true rfl) rfl dX5_shown_11 kxN (fun v ws1 H locs hq hP hD hS => ?_)
    rw [hq.2] at hP hD
    rw [hq.1]
    dsimp only [Option.toList, List.cons_append, List.nil_append]
    refine r_if_b0 (pc := 14) (b := decide (0 ≤ i ∧ i < n 2)) hx hb dX5_shown_14 (tgt := 21) (by decide)  (fun c_14 => ?_) (fun c_14 => ?_)
    · replace c_14 := of_decide_eq_false c_14
      refine lv_iconst (pc := 21) (v := iv 1) hx hb dX5_shown_21 rfl ?_
      refine m_put5 (pc := 22) (v := 1) hC hK hP hD hS m_3_4 dX5_shown_22 (fun H locs hP hD hS => ?_)
      refine lv_aload_n (pc := 25) hx hb dX5_shown_25 rfl (lv_at hl 0 rfl) ?_
      refine r_get (pc := 26) hC hK hP wM_o (hc := rfl) (fun w h => wt_1 w h) 19 (by decide) m_3_4 (fun _ h => h) (v := .int (iv 1)) rfl dX5_shown_26 ?_
      refine r_if_le (pc := 29) (a := 1) hx hb dX5_shown_29 (tgt := 36) (by decide) ⟨by omega, by omega⟩ (fun c_29 => ?_) (fun c_29 => ?_)
      · exact absurd c_29 (by decide)
      · have c_29_ := c_29
        refine lv_iconst (pc := 32) (v := iv 0) hx hb dX5_shown_32 rfl ?_
        refine lv_goto (pc := 33) (tgt := 47) hx hb dX5_shown_33 (by decide) ?_
        refine c_iret (pc := 47) hC hQ hP hD hS (by decide) (by decide) dX5_shown_47 ?_
        exact Or.inl (⟨(by omega), rfl, rfl⟩)
    · replace c_14 := of_decide_eq_true c_14
      refine lv_iconst (pc := 17) (v := iv 0) hx hb dX5_shown_17 rfl ?_
      refine lv_goto (pc := 18) (tgt := 22) hx hb dX5_shown_18 (by decide) ?_
      refine m_put5 (pc := 22) (v := 0) hC hK hP hD hS m_3_4 dX5_shown_22 (fun H locs hP hD hS => ?_)
      refine lv_aload_n (pc := 25) hx hb dX5_shown_25 rfl (lv_at hl 0 rfl) ?_
      refine r_get (pc := 26) hC hK hP wM_o (hc := rfl) (fun w h => wt_1 w h) 19 (by decide) m_3_4 (fun _ h => h) (v := .int (iv 0)) rfl dX5_shown_26 ?_
      refine r_if_le (pc := 29) (a := 0) hx hb dX5_shown_29 (tgt := 36) (by decide) ⟨by omega, by omega⟩ (fun c_29 => ?_) (fun c_29 => ?_)
      · have c_29_ := c_29
        refine lv_aload_n (pc := 36) hx hb dX5_shown_36 rfl (lv_at hl 0 rfl) ?_
        refine r_get (pc := 37) hC hK hP wM_o (hc := rfl) (fun w h => wt_1 w h) 18 (by decide) m_2_6 (fun _ h => h) (v := .ref (ad 13)) rfl dX5_shown_37 ?_
        refine lv_bipush (pc := 40) (v := iv 12) hx hb dX5_shown_40 (by decide) ?_
        refine lv_iload_n (pc := 42) hx hb dX5_shown_42 rfl (lv_at hl 1 rfl) ?_
        refine r_imul (pc := 43) (a := 12) (b := ch) hx hb dX5_shown_43 ?_
        refine lv_iload_n (pc := 44) hx hb dX5_shown_44 rfl (lv_at hl 2 rfl) ?_
        refine r_iadd (pc := 45) (a := 12 * ch) (b := i) hx hb dX5_shown_45 ?_
        refine r_iald (pc := 46) (z := (12 * ch) + i) hC hK hP wM_13 ⟨by omega, by omega, by decide⟩ dX5_shown_46 ?_
        refine c_iret (pc := 47) hC hQ hP hD hS (by decide) (by decide) dX5_shown_47 ?_
        exact Or.inr (⟨(by omega), rfl, rfl⟩)
      · exact absurd c_29 (by decide)
end
section
abbrev rm_c_m_clashes : Room := { frames := 4, cells := 0, slots := 0, locals := 130 }
set_option maxRecDepth 100000 in
set_option maxHeartbeats 4000000 in
theorem c_m_clashes (l : Launch) (ε : EV) (m0 : Nat) (ad : Nat → Nat) (n : Nat → Int) (G : Nat → Nat → Int) (R : va_W) (hV1 : VPat n G) (hV : VLam n G) : CT l yX5_clashes cX5_clashes 4 (some .int) rm_c_m_clashes ε [.ref m0] (wM ε m0 ad n G ++ R) (fun v w => v = some (.int (iv (CLS (CLASH G) (n 2).toNat))) ∧ w = wM ε m0 ad (va_up n 5 0) G ++ R) NX := by
  refine CT.intro (by decide +kernel) (Nat.le_of_ble_eq_true rfl) ?_
  intro p9 e9 s9 m9 a9 bl9 me9 c9 ls Q9 hC hE hP hD hl hQ
  have hx := hC.1
  have hb := hC.2.1
  have hK := hE.K
  have hS : WS ε s9.heap s9.heap [] := va_S.rf
  have hl : lv_has ls 4 [(0, .ref m0)] := hl
  obtain ⟨H, hH⟩ : ∃ H, H = s9.heap := ⟨_, rfl⟩
  obtain ⟨locs, hlo⟩ : ∃ z : List Loc, z = [] := ⟨_, rfl⟩
  rw [← hH] at hP ⊢
  have hS : WS ε s9.heap H locs := by rw [hH, hlo]; exact hS
  rw [← hlo]
  clear hH hlo
  have hn1 := hV1.1
  have hn2 := hV.1
  refine lv_aload_n (pc := 0) hx hb dX5_clashes_0 rfl (lv_at hl 0 rfl) ?_
  refine lv_iconst (pc := 1) (v := iv 0) hx hb dX5_clashes_1 rfl ?_
  refine m_put5 (pc := 2) (v := 0) hC hK hP hD hS m_3_4 dX5_clashes_2 (fun H locs hP hD hS => ?_)
  refine lv_iconst (pc := 5) (v := iv 0) hx hb dX5_clashes_5 rfl ?_
  refine lv_istore_n (lv' := [(1, .int (iv 0)), (0, .ref m0)]) (pc := 6) hx hb dX5_clashes_6 rfl hl (by decide) rfl (fun ls hl => ?_)
  refine lv_iconst (pc := 7) (v := iv 0) hx hb dX5_clashes_7 rfl ?_
  refine lv_istore_n (lv' := [(2, .int (iv 0)), (1, .int (iv 0)), (0, .ref m0)]) (pc := 8) hx hb dX5_clashes_8 rfl hl (by decide) rfl (fun ls hl => ?_)
  have lp_9 : ∀ (k9 : Nat) (nn : Int) (k : Int) (hk : 0 ≤ k ∧ k ≤ n 2) (hn : nn = CLS (CLASH G) k.toNat) , ((n 2 - k).toNat) < k9 → ∀ (H : Heap) (locs : List Loc) (ls : Array Slot), WP ε (wM ε m0 ad (va_up n 5 0) G ++ R) H → WD ε (wM ε m0 ad (va_up n 5 0) G ++ R) → WS ε s9.heap H locs → lv_has ls 4 [(0, .ref m0), (1, .int (iv nn)), (2, .int (iv k))] → W p9 l e9 rm_c_m_clashes s9 m9 a9 bl9 me9 c9 H locs 0 0 Q9 (F0 m9 9 ls []) := by
    intro k9
    induction k9 with
    | zero => intro nn k hk hn h9; exact absurd h9 (Nat.not_lt_zero _)
    | succ k9 ih_9 =>
      intro nn k hk hn h9 H locs ls hP hD hS hl
      refine lv_iload_n (pc := 9) hx hb dX5_clashes_9 rfl (lv_at hl 2 rfl) ?_
      refine lv_aload_n (pc := 10) hx hb dX5_clashes_10 rfl (lv_at hl 0 rfl) ?_
      refine r_get (pc := 11) hC hK hP wM_o (hc := rfl) (fun w h => wt_1 w h) 6 (by decide) m_13_22 (fun _ h => h) (v := .int (iv (n 2))) rfl dX5_clashes_11 ?_
      refine r_icmp_ge (pc := 14) (a := k) (b := n 2) hx hb dX5_clashes_14 (tgt := 72) (by decide) ⟨by omega, by omega⟩ ⟨by omega, by omega⟩ (fun c_14 => ?_) (fun c_14 => ?_)
      · have c_14_ := c_14
        have hres : nn = CLS (CLASH G) (n 2).toNat := by rw [hn, show k.toNat = (n 2).toNat by omega]
        refine lv_iload_n (pc := 72) hx hb dX5_clashes_72 rfl (lv_at hl 1 rfl) ?_
        refine c_iret (pc := 73) hC hQ hP hD hS (by decide) (by decide) dX5_clashes_73 ?_
        exact ⟨congrArg (fun z => some (Value.int (iv z))) hres, rfl⟩
      · have c_14_ := c_14
        refine lv_iconst (pc := 17) (v := iv 0) hx hb dX5_clashes_17 rfl ?_
        refine lv_istore_n (lv' := [(3, .int (iv 0)), (0, .ref m0), (1, .int (iv nn)), (2, .int (iv k))]) (pc := 18) hx hb dX5_clashes_18 rfl hl (by decide) rfl (fun ls hl => ?_)
        have lp_19 : ∀ (k9 : Nat) (nn : Int) (j : Int) (hj : 0 ≤ j ∧ j ≤ k) (hn2 : nn = CLS (CLASH G) k.toNat + CNT (CLASH G k) j.toNat) , ((k - j).toNat) < k9 → ∀ (H : Heap) (locs : List Loc) (ls : Array Slot), WP ε (wM ε m0 ad (va_up n 5 0) G ++ R) H → WD ε (wM ε m0 ad (va_up n 5 0) G ++ R) → WS ε s9.heap H locs → lv_has ls 4 [(0, .ref m0), (1, .int (iv nn)), (2, .int (iv k)), (3, .int (iv j))] → W p9 l e9 rm_c_m_clashes s9 m9 a9 bl9 me9 c9 H locs 0 0 Q9 (F0 m9 19 ls []) := by
          intro k9
          induction k9 with
          | zero => intro nn j hj hn2 h9; exact absurd h9 (Nat.not_lt_zero _)
          | succ k9 ih_19 =>
            intro nn j hj hn2 h9 H locs ls hP hD hS hl
            refine lv_iload_n (pc := 19) hx hb dX5_clashes_19 rfl (lv_at hl 3 rfl) ?_
            refine lv_iload_n (pc := 20) hx hb dX5_clashes_20 rfl (lv_at hl 2 rfl) ?_
            refine r_icmp_ge (pc := 21) (a := j) (b := k) hx hb dX5_clashes_21 (tgt := 66) (by decide) ⟨by omega, by omega⟩ ⟨by omega, by omega⟩ (fun c_21 => ?_) (fun c_21 => ?_)
            · have c_21_ := c_21
              refine lv_iinc (v := iv (k + 1)) (lv' := [(2, .int (iv (k + 1))), (0, .ref m0), (1, .int (iv nn)), (3, .int (iv j))]) (pc := 66) hx hb dX5_clashes_66 hl (k := 2) rfl (iv_add _ _) (by decide) rfl (fun ls hl => ?_)
              refine lv_goto (pc := 69) (tgt := 9) hx hb dX5_clashes_69 (by decide) ?_
              exact ih_9 nn (k + 1) (by omega) (by rw [CLS.succ hk.1, hn2, show j.toNat = k.toNat by omega]) (by omega) _ _ _ hP hD hS (lv_sub hl [1, 2, 0] rfl)
            · have c_21_ := c_21
              have hlk := hV.i (q := k) (by omega) (by omega)
              have hlj := hV.i (q := j) (by omega) (by omega)
              have hk6 := hlk.2.2.1
              have hj6 := hlj.2.2.1
              refine lv_iload_n (pc := 24) hx hb dX5_clashes_24 rfl (lv_at hl 1 rfl) ?_
              refine lv_aload_n (pc := 25) hx hb dX5_clashes_25 rfl (lv_at hl 0 rfl) ?_
              refine lv_aload_n (pc := 26) hx hb dX5_clashes_26 rfl (lv_at hl 0 rfl) ?_
              refine r_get (pc := 27) hC hK hP wM_o (hc := rfl) (fun w h => wt_1 w h) 9 (by decide) m_1_23 (fun _ h => h) (v := .ref (ad 6)) rfl dX5_clashes_27 ?_
              refine lv_iload_n (pc := 30) hx hb dX5_clashes_30 rfl (lv_at hl 2 rfl) ?_
              refine r_iald (pc := 31) (z := k) hC hK hP wM_6 ⟨by omega, by omega, by decide⟩ dX5_clashes_31 ?_
              refine lv_aload_n (pc := 32) hx hb dX5_clashes_32 rfl (lv_at hl 0 rfl) ?_
              refine r_get (pc := 33) hC hK hP wM_o (hc := rfl) (fun w h => wt_1 w h) 9 (by decide) m_1_23 (fun _ h => h) (v := .ref (ad 6)) rfl dX5_clashes_33 ?_
              refine lv_iload_n (pc := 36) hx hb dX5_clashes_36 rfl (lv_at hl 3 rfl) ?_
              refine r_iald (pc := 37) (z := j) hC hK hP wM_6 ⟨by omega, by omega, by decide⟩ dX5_clashes_37 ?_
              refine c_callV (pc := 38) (y := yX5_alike) (As := [.int (iv (G 6 k.toNat)), .int (iv (G 6 j.toNat))]) (rest := [.int (iv nn)]) hC hE hP hD hS hl.1 (c_m_alike l ε m0 ad (va_up n 5 0) G R (G 6 k.toNat) (G 6 j.toNat) ⟨by omega, by omega⟩ (hV1.q (by omega) (by omega)) ⟨by omega, by omega⟩ (hV1.q (by omega) (by omega))) m_9_24 m_10_0 m_10_1 m_0_5 m_10_2 wM_o rfl hd_yX5_alike rfl ⟨⟨by decide, by decide⟩, by decide, by decide⟩ (Nat.le_of_ble_eq_true rfl) rfl dX5_clashes_38 kxN (fun v ws1 H locs hq hP hD hS => ?_)
              rw [hq.2] at hP hD
              rw [hq.1]
              dsimp only [Option.toList, List.cons_append, List.nil_append]
              refine r_if_b0 (pc := 41) (b := tb (AK (LQ G (G 6 k.toNat)) (LQ G (G 6 j.toNat)) (G 3 (G 6 k.toNat).toNat) (G 3 (G 6 j.toNat).toNat))) hx hb dX5_clashes_41 (tgt := 57) (by decide)  (fun c_41 => ?_) (fun c_41 => ?_)
              · replace c_41 := tb_no c_41
                refine lv_iconst (pc := 57) (v := iv 0) hx hb dX5_clashes_57 rfl ?_
                refine r_iadd (pc := 58) (a := nn) (b := 0) hx hb dX5_clashes_58 ?_
                refine lv_istore_n (lv' := [(1, .int (iv (nn + 0))), (0, .ref m0), (2, .int (iv k)), (3, .int (iv j))]) (pc := 59) hx hb dX5_clashes_59 rfl hl (by decide) rfl (fun ls hl => ?_)
                refine lv_iinc (v := iv (j + 1)) (lv' := [(3, .int (iv (j + 1))), (1, .int (iv (nn + 0))), (0, .ref m0), (2, .int (iv k))]) (pc := 60) hx hb dX5_clashes_60 hl (k := 3) rfl (iv_add _ _) (by decide) rfl (fun ls hl => ?_)
                refine lv_goto (pc := 63) (tgt := 19) hx hb dX5_clashes_63 (by decide) ?_
                exact ih_19 (nn + 0) (j + 1) (by omega) (by rw [CNT.succ hj.1, tb_f (show ¬ CLASH G k j from fun z => c_41 z.1), hn2]; simp only [bz_t, bz_f]; omega) (by omega) _ _ _ hP hD hS (lv_sub hl [2, 1, 3, 0] rfl)
              · replace c_41 := tb_iff.mp c_41
                have hcm := CNT.bd (BOTHS G k j) 1024
                have hcm2 : COMM G k j = CNT (BOTHS G k j) 1024 := rfl
                refine lv_aload_n (pc := 44) hx hb dX5_clashes_44 rfl (lv_at hl 0 rfl) ?_
                refine lv_iload_n (pc := 45) hx hb dX5_clashes_45 rfl (lv_at hl 2 rfl) ?_
                refine lv_iload_n (pc := 46) hx hb dX5_clashes_46 rfl (lv_at hl 3 rfl) ?_
                refine c_callV (pc := 47) (y := yX5_both) (As := [.int (iv k), .int (iv j)]) (rest := [.int (iv nn)]) hC hE hP hD hS hl.1 (c_m_both l ε m0 ad (va_up n 5 0) G R (k) (j) ⟨by omega, by omega⟩ (hV.i (by omega) (by omega)) ⟨by omega, by omega⟩ (hV.i (by omega) (by omega))) m_18_18 m_18_19 m_18_20 m_0_5 m_18_21 wM_o rfl hd_yX5_both rfl ⟨⟨by decide, by decide⟩, by decide, by decide⟩ (Nat.le_of_ble_eq_true rfl) rfl dX5_clashes_47 kxN (fun v ws1 H locs hq hP hD hS => ?_)
                rw [hq.2] at hP hD
                rw [hq.1]
                dsimp only [Option.toList, List.cons_append, List.nil_append]
                refine r_if_le (pc := 50) (a := COMM G k j) hx hb dX5_clashes_50 (tgt := 57) (by decide) ⟨by omega, by omega⟩ (fun c_50 => ?_) (fun c_50 => ?_)
                · have c_50_ := c_50
                  refine lv_iconst (pc := 57) (v := iv 0) hx hb dX5_clashes_57 rfl ?_
                  refine r_iadd (pc := 58) (a := nn) (b := 0) hx hb dX5_clashes_58 ?_
                  refine lv_istore_n (lv' := [(1, .int (iv (nn + 0))), (0, .ref m0), (2, .int (iv k)), (3, .int (iv j))]) (pc := 59) hx hb dX5_clashes_59 rfl hl (by decide) rfl (fun ls hl => ?_)
                  refine lv_iinc (v := iv (j + 1)) (lv' := [(3, .int (iv (j + 1))), (1, .int (iv (nn + 0))), (0, .ref m0), (2, .int (iv k))]) (pc := 60) hx hb dX5_clashes_60 hl (k := 3) rfl (iv_add _ _) (by decide) rfl (fun ls hl => ?_)
                  refine lv_goto (pc := 63) (tgt := 19) hx hb dX5_clashes_63 (by decide) ?_
                  exact ih_19 (nn + 0) (j + 1) (by omega) (by rw [CNT.succ hj.1, tb_f (show ¬ CLASH G k j from fun z => by have z2 := z.2; omega), hn2]; simp only [bz_t, bz_f]; omega) (by omega) _ _ _ hP hD hS (lv_sub hl [2, 1, 3, 0] rfl)
                · have c_50_ := c_50
                  refine lv_iconst (pc := 53) (v := iv 1) hx hb dX5_clashes_53 rfl ?_
                  refine lv_goto (pc := 54) (tgt := 58) hx hb dX5_clashes_54 (by decide) ?_
                  refine r_iadd (pc := 58) (a := nn) (b := 1) hx hb dX5_clashes_58 ?_
                  refine lv_istore_n (lv' := [(1, .int (iv (nn + 1))), (0, .ref m0), (2, .int (iv k)), (3, .int (iv j))]) (pc := 59) hx hb dX5_clashes_59 rfl hl (by decide) rfl (fun ls hl => ?_)
                  refine lv_iinc (v := iv (j + 1)) (lv' := [(3, .int (iv (j + 1))), (1, .int (iv (nn + 1))), (0, .ref m0), (2, .int (iv k))]) (pc := 60) hx hb dX5_clashes_60 hl (k := 3) rfl (iv_add _ _) (by decide) rfl (fun ls hl => ?_)
                  refine lv_goto (pc := 63) (tgt := 19) hx hb dX5_clashes_63 (by decide) ?_
                  exact ih_19 (nn + 1) (j + 1) (by omega) (by rw [CNT.succ hj.1, tb_t (show CLASH G k j from ⟨c_41, c_50⟩), hn2]; simp only [bz_t, bz_f]; omega) (by omega) _ _ _ hP hD hS (lv_sub hl [2, 1, 3, 0] rfl)
        exact lp_19 _ nn 0 (by omega) (by rw [hn]; show _ = _ + (0 : Int); omega) (Nat.lt_succ_self _) _ _ _ hP hD hS (lv_sub hl [1, 2, 3, 0] rfl)
  exact lp_9 _ 0 0 (by omega) rfl (Nat.lt_succ_self _) _ _ _ hP hD hS (lv_sub hl [2, 1, 0] rfl)

abbrev rm_c_m_taken : Room := { frames := 4, cells := 0, slots := 0, locals := 130 }
set_option maxRecDepth 100000 in
set_option maxHeartbeats 4000000 in
theorem c_m_taken (l : Launch) (ε : EV) (m0 : Nat) (ad : Nat → Nat) (n : Nat → Int) (G : Nat → Nat → Int) (R : va_W) (ch x y i fr many : Int) (rc : rg ch) (rx : rg x) (ry : rg y) (ri : rg i) (rf : rg fr) (rm9 : rg many) (hV1 : VPat n G) (hV : VLam n G) (hV4 : VCha n G) : CT l yX5_taken cX5_taken 12 (some .int) rm_c_m_taken ε [.ref m0, .int (iv ch), .int (iv x), .int (iv y), .int (iv i), .int (iv fr), .int (iv many)] (wM ε m0 ad n G ++ R) (fun v w => ((¬ ((0 ≤ ch ∧ ch < n 4) ∧ 0 ≤ i ∧ i < n 2)) ∧ v = some (.int (iv 0)) ∧ w = wM ε m0 ad (va_up n 5 1) G ++ R) ∨ ((((0 ≤ ch ∧ ch < n 4) ∧ 0 ≤ i ∧ i < n 2) ∧ ¬ (((0 ≤ x ∧ x ≤ 31) ∧ 0 ≤ y ∧ y ≤ 31) ∧ (0 ≤ fr ∧ fr ≤ 1000) ∧ 1 ≤ many ∧ many ≤ 60)) ∧ v = some (.int (iv 0)) ∧ w = wM ε m0 ad (va_up n 5 2) G ++ R) ∨ ((((0 ≤ ch ∧ ch < n 4) ∧ 0 ≤ i ∧ i < n 2) ∧ (((0 ≤ x ∧ x ≤ 31) ∧ 0 ≤ y ∧ y ≤ 31) ∧ (0 ≤ fr ∧ fr ≤ 1000) ∧ 1 ≤ many ∧ many ≤ 60)) ∧ v = some (.int (iv (TK (CANB G ch x y i fr many) (n 2).toNat))) ∧ w = wM ε m0 ad (va_up n 5 0) G ++ R)) NX := by
  refine CT.intro (by decide +kernel) (Nat.le_of_ble_eq_true rfl) ?_
  intro p9 e9 s9 m9 a9 bl9 me9 c9 ls Q9 hC hE hP hD hl hQ
  have hx := hC.1
  have hb := hC.2.1
  have hK := hE.K
  have hS : WS ε s9.heap s9.heap [] := va_S.rf
  have hl : lv_has ls 12 [(0, .ref m0), (1, .int (iv ch)), (2, .int (iv x)), (3, .int (iv y)), (4, .int (iv i)), (5, .int (iv fr)), (6, .int (iv many))] := hl
  obtain ⟨H, hH⟩ : ∃ H, H = s9.heap := ⟨_, rfl⟩
  obtain ⟨locs, hlo⟩ : ∃ z : List Loc, z = [] := ⟨_, rfl⟩
  rw [← hH] at hP ⊢
  have hS : WS ε s9.heap H locs := by rw [hH, hlo]; exact hS
  rw [← hlo]
  clear hH hlo
  have hn1 := hV1.1
  have hn2 := hV.1
  have hn4 := hV4.1
  have lp_36 : ∀ (ok : Bool) (hok : ok = true ↔ ((0 ≤ x ∧ x ≤ 31) ∧ 0 ≤ y ∧ y ≤ 31) ∧ (0 ≤ fr ∧ fr ≤ 1000) ∧ 1 ≤ many ∧ many ≤ 60), ∀ (H : Heap) (locs : List Loc) (ls : Array Slot), WP ε (wM ε m0 ad n G ++ R) H → WD ε (wM ε m0 ad n G ++ R) → WS ε s9.heap H locs → lv_has ls 12 [(0, .ref m0), (1, .int (iv ch)), (2, .int (iv x)), (3, .int (iv y)), (4, .int (iv i)), (5, .int (iv fr)), (6, .int (iv many))] → W p9 l e9 rm_c_m_taken s9 m9 a9 bl9 me9 c9 H locs 0 0 Q9 (F0 m9 36 ls [.int (iv (bz ok))]) := by
    intro ok hok H locs ls hP hD hS hl
    refine lv_istore (lv' := [(7, .int (iv (bz ok))), (0, .ref m0), (1, .int (iv ch)), (2, .int (iv x)), (3, .int (iv y)), (4, .int (iv i)), (5, .int (iv fr)), (6, .int (iv many))]) (pc := 36) hx hb dX5_taken_36 hl (by decide) rfl (fun ls hl => ?_)
    have hok0 : ok = false → ¬ (((0 ≤ x ∧ x ≤ 31) ∧ 0 ≤ y ∧ y ≤ 31) ∧ (0 ≤ fr ∧ fr ≤ 1000) ∧ 1 ≤ many ∧ many ≤ 60) := fun z1 z2 => by rw [hok.mpr z2] at z1; cases z1
    refine lv_aload_n (pc := 38) hx hb dX5_taken_38 rfl (lv_at hl 1 rfl) ?_
    refine lv_aload_n (pc := 39) hx hb dX5_taken_39 rfl (lv_at hl 1 rfl) ?_
    refine lv_iload_n (pc := 40) hx hb dX5_taken_40 rfl (lv_at hl 2 rfl) ?_
    refine c_callV (pc := 41) (y := yX5_isChart) (As := [.int (iv ch)]) (rest := [.ref m0]) hC hE hP hD hS hl.1 (c_m_isChart l ε m0 ad n G R (ch) ⟨by omega, by omega⟩ ⟨by omega, by omega⟩) m_22_3 m_22_4 m_22_5 m_0_5 m_22_6 wM_o rfl hd_yX5_isChart rfl ⟨⟨by decide, by decide⟩, by decide, by decide⟩ (Nat.le_of_ble_eq_true rfl) rfl dX5_taken_41 kxN (fun v ws1 H locs hq hP hD hS => ?_)
    rw [hq.2] at hP hD
    rw [hq.1]
    dsimp only [Option.toList, List.cons_append, List.nil_append]
    refine r_if_b0 (pc := 44) (b := decide (0 ≤ ch ∧ ch < n 4)) hx hb dX5_taken_44 (tgt := 56) (by decide)  (fun c_44 => ?_) (fun c_44 => ?_)
    · replace c_44 := of_decide_eq_false c_44
      refine lv_iconst (pc := 56) (v := iv 1) hx hb dX5_taken_56 rfl ?_
      refine lv_goto (pc := 57) (tgt := 70) hx hb dX5_taken_57 (by decide) ?_
      refine m_put5 (pc := 70) (v := 1) hC hK hP hD hS m_3_4 dX5_taken_70 (fun H locs hP hD hS => ?_)
      refine lv_aload_n (pc := 73) hx hb dX5_taken_73 rfl (lv_at hl 1 rfl) ?_
      refine r_get (pc := 74) hC hK hP wM_o (hc := rfl) (fun w h => wt_1 w h) 19 (by decide) m_3_4 (fun _ h => h) (v := .int (iv 1)) rfl dX5_taken_74 ?_
      refine r_if_le (pc := 77) (a := 1) hx hb dX5_taken_77 (tgt := 82) (by decide) ⟨by omega, by omega⟩ (fun c_77 => ?_) (fun c_77 => ?_)
      · exact absurd c_77 (by decide)
      · have c_77_ := c_77
        refine lv_iconst (pc := 80) (v := iv 0) hx hb dX5_taken_80 rfl ?_
        refine c_iret (pc := 81) hC hQ hP hD hS (by decide) (by decide) dX5_taken_81 ?_
        exact Or.inl (⟨(by omega), rfl, rfl⟩)
    · replace c_44 := of_decide_eq_true c_44
      refine lv_aload_n (pc := 47) hx hb dX5_taken_47 rfl (lv_at hl 1 rfl) ?_
      refine lv_iload (pc := 48) hx hb dX5_taken_48 (lv_at hl 5 rfl) ?_
      refine c_callV (pc := 50) (y := yX5_isLamp) (As := [.int (iv i)]) (rest := [.ref m0]) hC hE hP hD hS hl.1 (c_m_isLamp l ε m0 ad n G R (i) ⟨by omega, by omega⟩ ⟨by omega, by omega⟩) m_14_18 m_14_19 m_14_20 m_0_5 m_14_21 wM_o rfl hd_yX5_isLamp rfl ⟨⟨by decide, by decide⟩, by decide, by decide⟩ (Nat.le_of_ble_eq_true rfl) rfl dX5_taken_50 kxN (fun v ws1 H locs hq hP hD hS => ?_)
      rw [hq.2] at hP hD
      rw [hq.1]
      dsimp only [Option.toList, List.cons_append, List.nil_append]
      refine r_if_b1 (pc := 53) (b := decide (0 ≤ i ∧ i < n 2)) hx hb dX5_taken_53 (tgt := 60) (by decide)  (fun c_53 => ?_) (fun c_53 => ?_)
      · replace c_53 := of_decide_eq_true c_53
        refine lv_iload (pc := 60) hx hb dX5_taken_60 (lv_at hl 0 rfl) ?_
        refine r_if_b0 (pc := 62) (b := ok) hx hb dX5_taken_62 (tgt := 69) (by decide)  (fun c_62 => ?_) (fun c_62 => ?_)
        · have c_62_ := c_62
          have hok1 := hok0 c_62
          refine lv_iconst (pc := 69) (v := iv 2) hx hb dX5_taken_69 rfl ?_
          refine m_put5 (pc := 70) (v := 2) hC hK hP hD hS m_3_4 dX5_taken_70 (fun H locs hP hD hS => ?_)
          refine lv_aload_n (pc := 73) hx hb dX5_taken_73 rfl (lv_at hl 1 rfl) ?_
          refine r_get (pc := 74) hC hK hP wM_o (hc := rfl) (fun w h => wt_1 w h) 19 (by decide) m_3_4 (fun _ h => h) (v := .int (iv 2)) rfl dX5_taken_74 ?_
          refine r_if_le (pc := 77) (a := 2) hx hb dX5_taken_77 (tgt := 82) (by decide) ⟨by omega, by omega⟩ (fun c_77 => ?_) (fun c_77 => ?_)
          · exact absurd c_77 (by decide)
          · have c_77_ := c_77
            refine lv_iconst (pc := 80) (v := iv 0) hx hb dX5_taken_80 rfl ?_
            refine c_iret (pc := 81) hC hQ hP hD hS (by decide) (by decide) dX5_taken_81 ?_
            exact Or.inr (Or.inl (⟨(by omega), rfl, rfl⟩))
        · have c_62_ := c_62
          have hok1 := hok.mp c_62
          refine lv_iconst (pc := 65) (v := iv 0) hx hb dX5_taken_65 rfl ?_
          refine lv_goto (pc := 66) (tgt := 70) hx hb dX5_taken_66 (by decide) ?_
          refine m_put5 (pc := 70) (v := 0) hC hK hP hD hS m_3_4 dX5_taken_70 (fun H locs hP hD hS => ?_)
          refine lv_aload_n (pc := 73) hx hb dX5_taken_73 rfl (lv_at hl 1 rfl) ?_
          refine r_get (pc := 74) hC hK hP wM_o (hc := rfl) (fun w h => wt_1 w h) 19 (by decide) m_3_4 (fun _ h => h) (v := .int (iv 0)) rfl dX5_taken_74 ?_
          refine r_if_le (pc := 77) (a := 0) hx hb dX5_taken_77 (tgt := 82) (by decide) ⟨by omega, by omega⟩ (fun c_77 => ?_) (fun c_77 => ?_)
          · have c_77_ := c_77
            have hli := hV.i (q := i) (by omega) (by omega)
            have hch := (hV4.2 ch (by omega) (by omega)).2
            refine lv_iconst (pc := 82) (v := iv (-1)) hx hb dX5_taken_82 rfl ?_
            refine lv_istore (lv' := [(8, .int (iv ((-1)))), (7, .int (iv (bz ok))), (0, .ref m0), (1, .int (iv ch)), (2, .int (iv x)), (3, .int (iv y)), (4, .int (iv i)), (5, .int (iv fr)), (6, .int (iv many))]) (pc := 83) hx hb dX5_taken_83 hl (by decide) rfl (fun ls hl => ?_)
            refine lv_iconst (pc := 85) (v := iv 0) hx hb dX5_taken_85 rfl ?_
            refine lv_istore (lv' := [(9, .int (iv 0)), (8, .int (iv ((-1)))), (7, .int (iv (bz ok))), (0, .ref m0), (1, .int (iv ch)), (2, .int (iv x)), (3, .int (iv y)), (4, .int (iv i)), (5, .int (iv fr)), (6, .int (iv many))]) (pc := 86) hx hb dX5_taken_86 hl (by decide) rfl (fun ls hl => ?_)
            have lp_88 : ∀ (k9 : Nat) (its : Int) (k : Int) (hk : 0 ≤ k ∧ k ≤ n 2) (hits : its = TK (CANB G ch x y i fr many) k.toNat) , ((n 2 - k).toNat) < k9 → ∀ (H : Heap) (locs : List Loc) (ls : Array Slot), WP ε (wM ε m0 ad (va_up n 5 0) G ++ R) H → WD ε (wM ε m0 ad (va_up n 5 0) G ++ R) → WS ε s9.heap H locs → lv_has ls 12 [(0, .ref m0), (1, .int (iv ch)), (2, .int (iv x)), (3, .int (iv y)), (4, .int (iv i)), (5, .int (iv fr)), (6, .int (iv many)), (8, .int (iv its)), (9, .int (iv k))] → W p9 l e9 rm_c_m_taken s9 m9 a9 bl9 me9 c9 H locs 0 0 Q9 (F0 m9 88 ls []) := by
              intro k9
              induction k9 with
              | zero => intro its k hk hits h9; exact absurd h9 (Nat.not_lt_zero _)
              | succ k9 ih_88 =>
                intro its k hk hits h9 H locs ls hP hD hS hl
                refine lv_iload (pc := 88) hx hb dX5_taken_88 (lv_at hl 8 rfl) ?_
                refine lv_aload_n (pc := 90) hx hb dX5_taken_90 rfl (lv_at hl 0 rfl) ?_
                refine r_get (pc := 91) hC hK hP wM_o (hc := rfl) (fun w h => wt_1 w h) 6 (by decide) m_13_22 (fun _ h => h) (v := .int (iv (n 2))) rfl dX5_taken_91 ?_
                refine r_icmp_ge (pc := 94) (a := k) (b := n 2) hx hb dX5_taken_94 (tgt := 180) (by decide) ⟨by omega, by omega⟩ ⟨by omega, by omega⟩ (fun c_94 => ?_) (fun c_94 => ?_)
                · have c_94_ := c_94
                  have hres : its = TK (CANB G ch x y i fr many) (n 2).toNat := by rw [hits, show k.toNat = (n 2).toNat by omega]
                  refine lv_iload (pc := 180) hx hb dX5_taken_180 (lv_at hl 7 rfl) ?_
                  refine c_iret (pc := 182) hC hQ hP hD hS (by decide) (by decide) dX5_taken_182 ?_
                  exact Or.inr (Or.inr (⟨(by omega), congrArg (fun z => some (Value.int (iv z))) hres, rfl⟩))
                · have c_94_ := c_94
                  have hck := hch k (by omega) (by omega)
                  have lp_147 : ∀ (can : Bool) (hcan : can = true ↔ CANB G ch x y i fr many k), ∀ (H : Heap) (locs : List Loc) (ls : Array Slot), WP ε (wM ε m0 ad (va_up n 5 0) G ++ R) H → WD ε (wM ε m0 ad (va_up n 5 0) G ++ R) → WS ε s9.heap H locs → lv_has ls 12 [(0, .ref m0), (1, .int (iv ch)), (2, .int (iv x)), (3, .int (iv y)), (4, .int (iv i)), (5, .int (iv fr)), (6, .int (iv many)), (8, .int (iv its)), (9, .int (iv k))] → W p9 l e9 rm_c_m_taken s9 m9 a9 bl9 me9 c9 H locs 0 0 Q9 (F0 m9 147 ls [.int (iv (bz can))]) := by
                    intro can hcan H locs ls hP hD hS hl
                    refine lv_istore (lv' := [(11, .int (iv (bz can))), (0, .ref m0), (1, .int (iv ch)), (2, .int (iv x)), (3, .int (iv y)), (4, .int (iv i)), (5, .int (iv fr)), (6, .int (iv many)), (8, .int (iv its)), (9, .int (iv k))]) (pc := 147) hx hb dX5_taken_147 hl (by decide) rfl (fun ls hl => ?_)
                    have htk := TK.bd (CANB G ch x y i fr many) k.toNat
                    refine lv_iload (pc := 149) hx hb dX5_taken_149 (lv_at hl 0 rfl) ?_
                    refine r_if_b1 (pc := 151) (b := can) hx hb dX5_taken_151 (tgt := 159) (by decide)  (fun c_151 => ?_) (fun c_151 => ?_)
                    · have c_151_ := c_151
                      refine lv_iload (pc := 159) hx hb dX5_taken_159 (lv_at hl 8 rfl) ?_
                      refine lv_iconst (pc := 161) (v := iv (-1)) hx hb dX5_taken_161 rfl ?_
                      refine r_icmp_ne (pc := 162) (a := its) (b := (-1)) hx hb dX5_taken_162 (tgt := 170) (by decide) ⟨by omega, by omega⟩ ⟨by omega, by omega⟩ (fun c_162 => ?_) (fun c_162 => ?_)
                      · have c_162_ := c_162
                        refine lv_bipush (pc := 170) (v := iv (-2)) hx hb dX5_taken_170 (by decide) ?_
                        refine lv_istore (lv' := [(8, .int (iv ((-2)))), (11, .int (iv (bz can))), (0, .ref m0), (1, .int (iv ch)), (2, .int (iv x)), (3, .int (iv y)), (4, .int (iv i)), (5, .int (iv fr)), (6, .int (iv many)), (9, .int (iv k))]) (pc := 172) hx hb dX5_taken_172 hl (by decide) rfl (fun ls hl => ?_)
                        refine lv_iinc (v := iv (k + 1)) (lv' := [(9, .int (iv (k + 1))), (8, .int (iv ((-2)))), (11, .int (iv (bz can))), (0, .ref m0), (1, .int (iv ch)), (2, .int (iv x)), (3, .int (iv y)), (4, .int (iv i)), (5, .int (iv fr)), (6, .int (iv many))]) (pc := 174) hx hb dX5_taken_174 hl (k := 9) rfl (iv_add _ _) (by decide) rfl (fun ls hl => ?_)
                        refine lv_goto (pc := 177) (tgt := 88) hx hb dX5_taken_177 (by decide) ?_
                        exact ih_88 ((-2)) (k + 1) (by omega) (by rw [TK.succ hk.1, tb_t (hcan.mp c_151), if_pos rfl, if_neg (by rw [← hits]; omega)]) (by omega) _ _ _ hP hD hS (lv_sub hl [3, 4, 5, 6, 7, 8, 9, 1, 0] rfl)
                      · have c_162_ := c_162
                        refine lv_iload (pc := 165) hx hb dX5_taken_165 (lv_at hl 9 rfl) ?_
                        refine lv_goto (pc := 167) (tgt := 172) hx hb dX5_taken_167 (by decide) ?_
                        refine lv_istore (lv' := [(8, .int (iv k)), (11, .int (iv (bz can))), (0, .ref m0), (1, .int (iv ch)), (2, .int (iv x)), (3, .int (iv y)), (4, .int (iv i)), (5, .int (iv fr)), (6, .int (iv many)), (9, .int (iv k))]) (pc := 172) hx hb dX5_taken_172 hl (by decide) rfl (fun ls hl => ?_)
                        refine lv_iinc (v := iv (k + 1)) (lv' := [(9, .int (iv (k + 1))), (8, .int (iv k)), (11, .int (iv (bz can))), (0, .ref m0), (1, .int (iv ch)), (2, .int (iv x)), (3, .int (iv y)), (4, .int (iv i)), (5, .int (iv fr)), (6, .int (iv many))]) (pc := 174) hx hb dX5_taken_174 hl (k := 9) rfl (iv_add _ _) (by decide) rfl (fun ls hl => ?_)
                        refine lv_goto (pc := 177) (tgt := 88) hx hb dX5_taken_177 (by decide) ?_
                        exact ih_88 k (k + 1) (by omega) (by rw [TK.succ hk.1, tb_t (hcan.mp c_151), if_pos rfl, if_pos (by rw [← hits]; omega)]) (by omega) _ _ _ hP hD hS (lv_sub hl [3, 4, 5, 6, 7, 8, 9, 1, 0] rfl)
                    · have c_151_ := c_151
                      refine lv_iload (pc := 154) hx hb dX5_taken_154 (lv_at hl 8 rfl) ?_
                      refine lv_goto (pc := 156) (tgt := 172) hx hb dX5_taken_156 (by decide) ?_
                      refine lv_istore (lv' := [(8, .int (iv its)), (11, .int (iv (bz can))), (0, .ref m0), (1, .int (iv ch)), (2, .int (iv x)), (3, .int (iv y)), (4, .int (iv i)), (5, .int (iv fr)), (6, .int (iv many)), (9, .int (iv k))]) (pc := 172) hx hb dX5_taken_172 hl (by decide) rfl (fun ls hl => ?_)
                      refine lv_iinc (v := iv (k + 1)) (lv' := [(9, .int (iv (k + 1))), (8, .int (iv its)), (11, .int (iv (bz can))), (0, .ref m0), (1, .int (iv ch)), (2, .int (iv x)), (3, .int (iv y)), (4, .int (iv i)), (5, .int (iv fr)), (6, .int (iv many))]) (pc := 174) hx hb dX5_taken_174 hl (k := 9) rfl (iv_add _ _) (by decide) rfl (fun ls hl => ?_)
                      refine lv_goto (pc := 177) (tgt := 88) hx hb dX5_taken_177 (by decide) ?_
                      exact ih_88 its (k + 1) (by omega) (by rw [TK.succ hk.1, tb_f (fun z => absurd (hcan.mpr z) (by rw [c_151]; decide)), hits]; rfl) (by omega) _ _ _ hP hD hS (lv_sub hl [3, 4, 5, 6, 7, 8, 9, 1, 0] rfl)
                  refine lv_aload_n (pc := 97) hx hb dX5_taken_97 rfl (lv_at hl 0 rfl) ?_
                  refine r_get (pc := 98) hC hK hP wM_o (hc := rfl) (fun w h => wt_1 w h) 18 (by decide) m_2_6 (fun _ h => h) (v := .ref (ad 13)) rfl dX5_taken_98 ?_
                  refine lv_bipush (pc := 101) (v := iv 12) hx hb dX5_taken_101 (by decide) ?_
                  refine lv_iload_n (pc := 103) hx hb dX5_taken_103 rfl (lv_at hl 1 rfl) ?_
                  refine r_imul (pc := 104) (a := 12) (b := ch) hx hb dX5_taken_104 ?_
                  refine lv_iload (pc := 105) hx hb dX5_taken_105 (lv_at hl 8 rfl) ?_
                  refine r_iadd (pc := 107) (a := 12 * ch) (b := k) hx hb dX5_taken_107 ?_
                  refine r_iald (pc := 108) (z := (12 * ch) + k) hC hK hP wM_13 ⟨by omega, by omega, by decide⟩ dX5_taken_108 ?_
                  refine lv_istore (lv' := [(10, .int (iv (G 13 ((12 * ch) + k).toNat))), (0, .ref m0), (1, .int (iv ch)), (2, .int (iv x)), (3, .int (iv y)), (4, .int (iv i)), (5, .int (iv fr)), (6, .int (iv many)), (8, .int (iv its)), (9, .int (iv k))]) (pc := 109) hx hb dX5_taken_109 hl (by decide) rfl (fun ls hl => ?_)
                  refine lv_iload (pc := 111) hx hb dX5_taken_111 (lv_at hl 0 rfl) ?_
                  refine r_if_lt (pc := 113) (a := G 13 ((12 * ch) + k).toNat) hx hb dX5_taken_113 (tgt := 146) (by decide) ⟨by omega, by omega⟩ (fun c_113 => ?_) (fun c_113 => ?_)
                  · have c_113_ := c_113
                    refine lv_iconst (pc := 146) (v := iv 0) hx hb dX5_taken_146 rfl ?_
                    exact lp_147 false ⟨fun z => (by cases z), fun z => (by have z1 := z.1.1; omega)⟩ _ _ _ hP hD hS (lv_sub hl [1, 2, 3, 4, 5, 6, 7, 8, 9] rfl)
                  · have c_113_ := c_113
                    refine lv_aload_n (pc := 116) hx hb dX5_taken_116 rfl (lv_at hl 1 rfl) ?_
                    refine lv_iload (pc := 117) hx hb dX5_taken_117 (lv_at hl 9 rfl) ?_
                    refine lv_iload_n (pc := 119) hx hb dX5_taken_119 rfl (lv_at hl 3 rfl) ?_
                    refine lv_iload_n (pc := 120) hx hb dX5_taken_120 rfl (lv_at hl 4 rfl) ?_
                    refine c_callV (pc := 121) (y := yX5_sees) (As := [.int (iv k), .int (iv x), .int (iv y)]) (rest := []) hC hE hP hD hS hl.1 (c_m_sees l ε m0 ad (va_up n 5 0) G R (k) (x) (y) ⟨by omega, by omega⟩ (hV.i (by omega) (by omega)) ⟨⟨by omega, by omega⟩, by omega, by omega⟩) m_17_17 m_17_18 m_17_19 m_0_5 m_17_20 wM_o rfl hd_yX5_sees rfl ⟨⟨by decide, by decide⟩, by decide, by decide⟩ (Nat.le_of_ble_eq_true rfl) rfl dX5_taken_121 kxN (fun v ws1 H locs hq hP hD hS => ?_)
                    rw [hq.2] at hP hD
                    rw [hq.1]
                    dsimp only [Option.toList, List.cons_append, List.nil_append]
                    refine r_if_b0 (pc := 124) (b := tb (SEES G k x y)) hx hb dX5_taken_124 (tgt := 146) (by decide)  (fun c_124 => ?_) (fun c_124 => ?_)
                    · replace c_124 := tb_no c_124
                      refine lv_iconst (pc := 146) (v := iv 0) hx hb dX5_taken_146 rfl ?_
                      exact lp_147 false ⟨fun z => (by cases z), fun z => (by exact absurd z.1.2 c_124)⟩ _ _ _ hP hD hS (lv_sub hl [1, 2, 3, 4, 5, 6, 7, 8, 9] rfl)
                    · replace c_124 := tb_iff.mp c_124
                      refine lv_aload_n (pc := 127) hx hb dX5_taken_127 rfl (lv_at hl 1 rfl) ?_
                      refine lv_iload (pc := 128) hx hb dX5_taken_128 (lv_at hl 0 rfl) ?_
                      refine lv_iload (pc := 130) hx hb dX5_taken_130 (lv_at hl 5 rfl) ?_
                      refine lv_iload (pc := 132) hx hb dX5_taken_132 (lv_at hl 6 rfl) ?_
                      refine lv_iload (pc := 134) hx hb dX5_taken_134 (lv_at hl 7 rfl) ?_
                      refine c_callV (pc := 136) (y := yX5_could) (As := [.int (iv (G 13 ((12 * ch) + k).toNat)), .int (iv i), .int (iv fr), .int (iv many)]) (rest := []) hC hE hP hD hS hl.1 (c_m_could l ε m0 ad (va_up n 5 0) G R (G 13 ((12 * ch) + k).toNat) (i) (fr) (many) ⟨by omega, by omega⟩ (hV1.q (by omega) (by omega)) ⟨by omega, by omega⟩ hli (hV1.q hli.2.2.1.1 hli.2.2.1.2) hn1.2 ⟨by omega, by omega⟩ ⟨by omega, by omega⟩) m_24_6 m_24_7 m_24_8 m_0_5 m_24_9 wM_o rfl hd_yX5_could rfl ⟨⟨by decide, by decide⟩, by decide, by decide⟩ (Nat.le_of_ble_eq_true rfl) rfl dX5_taken_136 kxN (fun v ws1 H locs hq hP hD hS => ?_)
                      rw [hq.2] at hP hD
                      rw [hq.1]
                      dsimp only [Option.toList, List.cons_append, List.nil_append]
                      refine r_if_b0 (pc := 139) (b := tb (COULD G (G 13 ((12 * ch) + k).toNat) i fr many)) hx hb dX5_taken_139 (tgt := 146) (by decide)  (fun c_139 => ?_) (fun c_139 => ?_)
                      · replace c_139 := tb_no c_139
                        refine lv_iconst (pc := 146) (v := iv 0) hx hb dX5_taken_146 rfl ?_
                        exact lp_147 false ⟨fun z => (by cases z), fun z => (by exact absurd z.2 c_139)⟩ _ _ _ hP hD hS (lv_sub hl [1, 2, 3, 4, 5, 6, 7, 8, 9] rfl)
                      · replace c_139 := tb_iff.mp c_139
                        refine lv_iconst (pc := 142) (v := iv 1) hx hb dX5_taken_142 rfl ?_
                        refine lv_goto (pc := 143) (tgt := 147) hx hb dX5_taken_143 (by decide) ?_
                        exact lp_147 true ⟨fun _ => ⟨⟨by omega, c_124⟩, c_139⟩, fun _ => rfl⟩ _ _ _ hP hD hS (lv_sub hl [1, 2, 3, 4, 5, 6, 7, 8, 9] rfl)
            exact lp_88 _ ((-1)) 0 (by omega) rfl (Nat.lt_succ_self _) _ _ _ hP hD hS (lv_sub hl [3, 4, 5, 6, 7, 8, 9, 1, 0] rfl)
          · exact absurd c_77 (by decide)
      · replace c_53 := of_decide_eq_false c_53
        refine lv_iconst (pc := 56) (v := iv 1) hx hb dX5_taken_56 rfl ?_
        refine lv_goto (pc := 57) (tgt := 70) hx hb dX5_taken_57 (by decide) ?_
        refine m_put5 (pc := 70) (v := 1) hC hK hP hD hS m_3_4 dX5_taken_70 (fun H locs hP hD hS => ?_)
        refine lv_aload_n (pc := 73) hx hb dX5_taken_73 rfl (lv_at hl 1 rfl) ?_
        refine r_get (pc := 74) hC hK hP wM_o (hc := rfl) (fun w h => wt_1 w h) 19 (by decide) m_3_4 (fun _ h => h) (v := .int (iv 1)) rfl dX5_taken_74 ?_
        refine r_if_le (pc := 77) (a := 1) hx hb dX5_taken_77 (tgt := 82) (by decide) ⟨by omega, by omega⟩ (fun c_77 => ?_) (fun c_77 => ?_)
        · exact absurd c_77 (by decide)
        · have c_77_ := c_77
          refine lv_iconst (pc := 80) (v := iv 0) hx hb dX5_taken_80 rfl ?_
          refine c_iret (pc := 81) hC hQ hP hD hS (by decide) (by decide) dX5_taken_81 ?_
          exact Or.inl (⟨(by omega), rfl, rfl⟩)
  refine lv_iload_n (pc := 0) hx hb dX5_taken_0 rfl (lv_at hl 2 rfl) ?_
  refine lv_iload_n (pc := 1) hx hb dX5_taken_1 rfl (lv_at hl 3 rfl) ?_
  refine c_callS (pc := 2) (y := yX5_isPlace) (As := [.int (iv x), .int (iv y)]) (rest := []) hC hE hP hD hS hl.1 (c_m_isPlace l ε (wM ε m0 ad n G ++ R) (x) (y) ⟨by omega, by omega⟩ ⟨by omega, by omega⟩) m_13_23 m_13_24 m_0_5 m_14_0 hd_yX5_isPlace rfl ⟨⟨by decide, by decide⟩, by decide, by decide⟩ (Nat.le_of_ble_eq_true rfl) rfl dX5_taken_2 kxN (fun v ws1 H locs hq hP hD hS => ?_)
  rw [hq.2] at hP hD
  rw [hq.1]
  dsimp only [Option.toList, List.cons_append, List.nil_append]
  refine r_if_b0 (pc := 5) (b := decide ((0 ≤ x ∧ x ≤ 31) ∧ 0 ≤ y ∧ y ≤ 31)) hx hb dX5_taken_5 (tgt := 35) (by decide)  (fun c_5 => ?_) (fun c_5 => ?_)
  · replace c_5 := of_decide_eq_false c_5
    refine lv_iconst (pc := 35) (v := iv 0) hx hb dX5_taken_35 rfl ?_
    exact lp_36 false ⟨fun z => (by cases z), fun z => (by omega)⟩ _ _ _ hP hD hS (lv_sub hl [0, 1, 2, 3, 4, 5, 6] rfl)
  · replace c_5 := of_decide_eq_true c_5
    refine lv_iload (pc := 8) hx hb dX5_taken_8 (lv_at hl 5 rfl) ?_
    refine lv_iconst (pc := 10) (v := iv 0) hx hb dX5_taken_10 rfl ?_
    refine lv_sipush (pc := 11) (v := iv 1000) hx hb dX5_taken_11 (by decide) ?_
    refine c_callS (pc := 14) (y := yX5_isIn) (As := [.int (iv fr), .int (iv 0), .int (iv 1000)]) (rest := []) hC hE hP hD hS hl.1 (c_m_isIn l ε (wM ε m0 ad n G ++ R) (fr) (0) (1000) ⟨by omega, by omega⟩ ⟨by omega, by omega⟩ ⟨by omega, by omega⟩) m_3_5 m_3_6 m_0_5 m_3_7 hd_yX5_isIn rfl ⟨⟨by decide, by decide⟩, by decide, by decide⟩ (Nat.le_of_ble_eq_true rfl) rfl dX5_taken_14 kxN (fun v ws1 H locs hq hP hD hS => ?_)
    rw [hq.2] at hP hD
    rw [hq.1]
    dsimp only [Option.toList, List.cons_append, List.nil_append]
    refine r_if_b0 (pc := 17) (b := decide (0 ≤ fr ∧ fr ≤ 1000)) hx hb dX5_taken_17 (tgt := 35) (by decide)  (fun c_17 => ?_) (fun c_17 => ?_)
    · replace c_17 := of_decide_eq_false c_17
      refine lv_iconst (pc := 35) (v := iv 0) hx hb dX5_taken_35 rfl ?_
      exact lp_36 false ⟨fun z => (by cases z), fun z => (by omega)⟩ _ _ _ hP hD hS (lv_sub hl [0, 1, 2, 3, 4, 5, 6] rfl)
    · replace c_17 := of_decide_eq_true c_17
      refine lv_iload (pc := 20) hx hb dX5_taken_20 (lv_at hl 6 rfl) ?_
      refine lv_iconst (pc := 22) (v := iv 1) hx hb dX5_taken_22 rfl ?_
      refine lv_bipush (pc := 23) (v := iv 60) hx hb dX5_taken_23 (by decide) ?_
      refine c_callS (pc := 25) (y := yX5_isIn) (As := [.int (iv many), .int (iv 1), .int (iv 60)]) (rest := []) hC hE hP hD hS hl.1 (c_m_isIn l ε (wM ε m0 ad n G ++ R) (many) (1) (60) ⟨by omega, by omega⟩ ⟨by omega, by omega⟩ ⟨by omega, by omega⟩) m_3_5 m_3_6 m_0_5 m_3_7 hd_yX5_isIn rfl ⟨⟨by decide, by decide⟩, by decide, by decide⟩ (Nat.le_of_ble_eq_true rfl) rfl dX5_taken_25 kxN (fun v ws1 H locs hq hP hD hS => ?_)
      rw [hq.2] at hP hD
      rw [hq.1]
      dsimp only [Option.toList, List.cons_append, List.nil_append]
      refine r_if_b0 (pc := 28) (b := decide (1 ≤ many ∧ many ≤ 60)) hx hb dX5_taken_28 (tgt := 35) (by decide)  (fun c_28 => ?_) (fun c_28 => ?_)
      · replace c_28 := of_decide_eq_false c_28
        refine lv_iconst (pc := 35) (v := iv 0) hx hb dX5_taken_35 rfl ?_
        exact lp_36 false ⟨fun z => (by cases z), fun z => (by omega)⟩ _ _ _ hP hD hS (lv_sub hl [0, 1, 2, 3, 4, 5, 6] rfl)
      · replace c_28 := of_decide_eq_true c_28
        refine lv_iconst (pc := 31) (v := iv 1) hx hb dX5_taken_31 rfl ?_
        refine lv_goto (pc := 32) (tgt := 36) hx hb dX5_taken_32 (by decide) ?_
        exact lp_36 true ⟨fun _ => (by omega), fun _ => rfl⟩ _ _ _ hP hD hS (lv_sub hl [0, 1, 2, 3, 4, 5, 6] rfl)
end
