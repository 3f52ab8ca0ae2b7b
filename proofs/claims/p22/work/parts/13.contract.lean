/-! one kind of contract: from a world ws the method returns with 'post answer world', or throws E with 'px E world' -/
def QR (ε : EV) (post : Option Value → va_W → Prop) : Array Value → State → Outcome → State → Prop := fun _ st o t => ∃ (v : Option Value) (ws : va_W), o = .returned v ∧ post v ws ∧ WP ε ws t.heap ∧ WD ε ws ∧ va_F (AA ε) st t
def XR (ε : EV) (px : String → va_W → Prop) : String → State → State → Prop := fun E st t => ∃ ws : va_W, px E ws ∧ WP ε ws t.heap ∧ WD ε ws ∧ va_F (AA ε) st t
def PR (ε : EV) (as : List Value) (ws : va_W) : Array Value → State → Prop := va_Pc as (fun U => ENV ε U U.heap ∧ WP ε ws U.heap ∧ WD ε ws)
def CT (l : Launch) (y : MethodName) (cc : ByteArray) (mL : Nat) (ret : Option FieldType) (rm : Room) (ε : EV) (as : List Value) (ws : va_W) (post : Option Value → va_W → Prop) (px : String → va_W → Prop) : Prop :=
  vx_Met l y (Cond.code y cc mL ret :: WALL) rm (PR ε as ws) (QR ε post) (XR ε px) rm.cells rm.slots (AA ε)
def CTW (l : Launch) (y : MethodName) (cc : ByteArray) (mL : Nat) (ret : Option FieldType) (hh : List (Nat × Nat × Nat × Nat)) (rm : Room) (ε : EV) (as : List Value) (ws : va_W) (post : Option Value → va_W → Prop) (px : String → va_W → Prop) : Prop :=
  vx_Met l y (Cond.codeWith y cc mL ret hh :: WALL) rm (PR ε as ws) (QR ε post) (XR ε px) rm.cells rm.slots (AA ε)
def NX : String → va_W → Prop := fun _ _ => False
theorem PR.blind {ε : EV} {as : List Value} {ws : va_W} : FrameBlind (PR ε as ws) := fun _ _ _ _ q => ⟨q.1, ENV.calling q.2.1, q.2.2⟩
theorem CT.intro {l : Launch} {y : MethodName} {cc : ByteArray} {mL : Nat} {ret : Option FieldType} {rm : Room} {ε : EV} {as : List Value} {ws : va_W} {post : Option Value → va_W → Prop} {px : String → va_W → Prop} (hpl : plainName y.cls = true) (hlen : (lg_sl as).length ≤ mL)
    (body : ∀ (p : Program) (e : Env) (s : State) (m : MethodId) (args : Array Value) (below : List Frame) (meth : Method) (c : Code) (ls : Array Slot) (Q : State → Prop), CTX p s m args meth c cc mL ret y.cls y.name [] → ENV ε s s.heap → WP ε ws s.heap → WD ε ws → lv_has ls mL (lv_args 0 as) →
      Q = vx_MQ below (QR ε post) (XR ε px) args s rm.cells rm.slots (AA ε) → W p l e rm s m args below meth c s.heap [] 0 0 Q (F0 m 0 ls [])) : CT l y cc mL ret rm ε as ws post px := by
  refine vx_ofW hpl rfl ?_
  intro p e s m args below meth c s₁ B hml htb hv
  obtain ⟨rfl, hE, hP, hD⟩ := hv
  have hts := atoms_spec (ws := Cond.code y cc mL ret :: WALL) B.pre
  rw [lg_entry_eq]
  refine body p e s m as.toArray below meth c _ _ ⟨B.exec, B.bytes, hml, findClass_of_methodNamed B.named, fun w hw => hts w (List.mem_cons_of_mem _ hw), B.returns, B.notSynchronized, List.eq_nil_iff_forall_not_mem.mpr (fun x hx => htb x hx), (name_of_methodNamed B.named B.method).1⟩ hE hP hD (lv_entry as hlen) rfl
theorem CTW.intro {l : Launch} {y : MethodName} {cc : ByteArray} {mL : Nat} {ret : Option FieldType} {hh : List (Nat × Nat × Nat × Nat)} {rm : Room} {ε : EV} {as : List Value} {ws : va_W} {post : Option Value → va_W → Prop} {px : String → va_W → Prop} (hpl : plainName y.cls = true) (hlen : (lg_sl as).length ≤ mL)
    (body : ∀ (p : Program) (e : Env) (s : State) (m : MethodId) (args : Array Value) (below : List Frame) (meth : Method) (c : Code) (ls : Array Slot) (Q : State → Prop), CTX p s m args meth c cc mL ret y.cls y.name (tableOf hh) → ENV ε s s.heap → WP ε ws s.heap → WD ε ws → lv_has ls mL (lv_args 0 as) →
      Q = vx_MQ below (QR ε post) (XR ε px) args s rm.cells rm.slots (AA ε) → W p l e rm s m args below meth c s.heap [] 0 0 Q (F0 m 0 ls [])) : CTW l y cc mL ret hh rm ε as ws post px := by
  refine vx_ofWH (hh := hh) hpl rfl ?_
  intro p e s m args below meth c s₁ B hml hv
  obtain ⟨rfl, hE, hP, hD⟩ := hv
  have hts := atoms_spec (ws := Cond.codeWith y cc mL ret hh :: WALL) B.pre
  rw [lg_entry_eq]
  refine body p e s m as.toArray below meth c _ _ ⟨B.exec, B.bytes, hml, findClass_of_methodNamed B.named, fun w hw => hts w (List.mem_cons_of_mem _ hw), B.returns, B.notSynchronized, vx_table (x := y) B (hts _ List.mem_cons_self), (name_of_methodNamed B.named B.method).1⟩ hE hP hD (lv_entry as hlen) rfl
theorem CT.met {l : Launch} {y : MethodName} {cc : ByteArray} {mL : Nat} {ret : Option FieldType} {rm : Room} {ε : EV} {as : List Value} {ws : va_W} {post : Option Value → va_W → Prop} (h : CT l y cc mL ret rm ε as ws post NX) : Met l y (Cond.code y cc mL ret :: WALL) rm (PR ε as ws) (QR ε post) rm.cells rm.slots (AA ε) := by
  intro p e a1 a2 a3 s m args below a4 a5 a6 a7
  obtain ⟨k, o, h1, h2, h3, h4⟩ := h p e a1 a2 a3 s m args below a4 a5 a6 a7
  refine ⟨k, o, h1, h2, h3, ?_⟩
  rcases h4 with h4 | ⟨q, -, E, ce, L, ⟨ws', hf, -⟩, -⟩
  · exact h4
  · exact hf.elim
section CR
variable {p : Program} {l : Launch} {e : Env} {R : Room} {s : State} {m : MethodId} {args : Array Value} {below : List Frame} {meth : Method} {c : Code} {H : Heap} {locs : List Loc} {cells slots : Nat} {Q : State → Prop}
variable {cc : ByteArray} {pc : Nat} {ls : Array Slot} {rest st0 : List Value} {ε : EV} {ws : va_W} {mL : Nat} {ret : Option FieldType} {own nm : String} {tb : List ExceptionTableEntry} {post : Option Value → va_W → Prop} {px : String → va_W → Prop}
/-! ends -/
theorem c_iret {mc ms : Nat} {v : Int32} (hC : CTX p s m args meth c cc mL (some .int) own nm tb) (hQ : Q = vx_MQ below (QR ε post) (XR ε px) args s mc ms (AA ε)) (hP : WP ε ws H) (hD : WD ε ws) (hS : WS ε s.heap H locs) (hc : cells ≤ mc) (hs : slots ≤ ms) (hdg : decode cc pc = .ok (.ireturn, 1)) (hq : post (some (.int v)) ws) : W p l e R s m args below meth c H locs cells slots Q (F0 m pc ls [.int v]) := by
  subst hQ
  obtain ⟨hx, hb, -, -, -, hr, hlk, -⟩ := hC
  refine vx_ret (W.widen hc hs (W.iret hx hb hr (fun t ht _ => ⟨_, ws, rfl, hq, by rw [ht]; exact hP, hD, va_S.F hS ht⟩) hS.2.2 hdg hlk))
theorem c_zret {mc ms : Nat} {v : Int32} (hC : CTX p s m args meth c cc mL (some .boolean) own nm tb) (hQ : Q = vx_MQ below (QR ε post) (XR ε px) args s mc ms (AA ε)) (hP : WP ε ws H) (hD : WD ε ws) (hS : WS ε s.heap H locs) (hc : cells ≤ mc) (hs : slots ≤ ms) (hdg : decode cc pc = .ok (.ireturn, 1)) (hn : narrow .boolean (.int v) = .int v) (hq : post (some (.int v)) ws) : W p l e R s m args below meth c H locs cells slots Q (F0 m pc ls [.int v]) := by
  subst hQ
  obtain ⟨hx, hb, -, -, -, hr, hlk, -⟩ := hC
  refine vx_ret (W.widen hc hs (W.zret hx hb hr hn (fun t ht _ => ⟨_, ws, rfl, hq, by rw [ht]; exact hP, hD, va_S.F hS ht⟩) hS.2.2 hdg hlk))
theorem c_vret {mc ms : Nat} (hC : CTX p s m args meth c cc mL none own nm tb) (hQ : Q = vx_MQ below (QR ε post) (XR ε px) args s mc ms (AA ε)) (hP : WP ε ws H) (hD : WD ε ws) (hS : WS ε s.heap H locs) (hc : cells ≤ mc) (hs : slots ≤ ms) (hdg : decode cc pc = .ok (.return_, 1)) (hq : post none ws) : W p l e R s m args below meth c H locs cells slots Q (F0 m pc ls []) := by
  subst hQ
  obtain ⟨hx, hb, -, -, -, hr, hlk, -⟩ := hC
  refine vx_ret (W.widen hc hs (W.vret hx hb hr (fun t ht _ => ⟨_, ws, rfl, hq, by rw [ht]; exact hP, hD, va_S.F hS ht⟩) hS.2.2 hdg hlk))
theorem c_lret {mc ms : Nat} {v : Int64} (hC : CTX p s m args meth c cc mL (some .long) own nm tb) (hQ : Q = vx_MQ below (QR ε post) (XR ε px) args s mc ms (AA ε)) (hP : WP ε ws H) (hD : WD ε ws) (hS : WS ε s.heap H locs) (hc : cells ≤ mc) (hs : slots ≤ ms) (hdg : decode cc pc = .ok (.lreturn, 1)) (hq : post (some (.long v)) ws) : W p l e R s m args below meth c H locs cells slots Q (F0 m pc ls [.long v]) := by
  subst hQ
  obtain ⟨hx, hb, -, -, -, hr, hlk, -⟩ := hC
  refine vx_ret (W.widen hc hs (W.lret hx hb hr (fun t ht _ => ⟨_, ws, rfl, hq, by rw [ht]; exact hP, hD, va_S.F hS ht⟩) hS.2.2 hdg hlk))
theorem c_aret {mc ms : Nat} {rt : FieldType} {v : Value} (hC : CTX p s m args meth c cc mL (some rt) own nm tb) (hrt : (∃ n, rt = .object n) ∨ ∃ t, rt = .array t) (hv : v = .null ∨ ∃ a, v = .ref a) (hQ : Q = vx_MQ below (QR ε post) (XR ε px) args s mc ms (AA ε)) (hP : WP ε ws H) (hD : WD ε ws) (hS : WS ε s.heap H locs) (hc : cells ≤ mc) (hs : slots ≤ ms) (hdg : decode cc pc = .ok (.areturn, 1)) (hq : post (some v) ws) : W p l e R s m args below meth c H locs cells slots Q (F0 m pc ls [v]) := by
  subst hQ
  obtain ⟨hx, hb, -, -, -, hr, hlk, -⟩ := hC
  refine vx_ret (W.widen hc hs (W.aret hx hb hr hrt hv (fun t ht _ => ⟨_, ws, rfl, hq, by rw [ht]; exact hP, hD, va_S.F hS ht⟩) hS.2.2 hdg hlk))
theorem nz_0 : narrow .boolean (.int (iv 0)) = .int (iv 0) := rfl
theorem nz_1 : narrow .boolean (.int (iv 1)) = .int (iv 1) := rfl
theorem nz_b (b : Bool) : narrow .boolean (.int (iv (bz b))) = .int (iv (bz b)) := by cases b <;> rfl
/-! calls -/
theorem c_run {mc ms : Nat} {a : Array Value} (hr : vx_Run p l e R s m args below meth c H locs cells slots mc ms (F0 m pc ls st0) rest (QR ε post a) (XR ε px) (AA ε)) (hS : WS ε s.heap H locs)
    (kx : ∀ (E : String) (ce : Cell) (q9 : Addr) (ws1 : va_W) (H1 : Heap) (locs1 : List Loc), px E ws1 → WP ε ws1 H1 → WD ε ws1 → WS ε s.heap H1 locs1 → H1[q9]? = some ce → ce.vm = .none → s.vm.findClass E = some ce.cls → vx_W p l e R s m args below meth c H1 locs1 (cells + mc) (slots + ms) Q (F0 m pc ls rest) q9)
    (kk : ∀ (v : Option Value) (ws1 : va_W) (H1 : Heap) (locs1 : List Loc), post v ws1 → WP ε ws1 H1 → WD ε ws1 → WS ε s.heap H1 locs1 → W p l e R s m args below meth c H1 locs1 (cells + mc) (slots + ms) Q (F0 m (pc + 3) ls (v.toList ++ rest))) : W p l e R s m args below meth c H locs cells slots Q (F0 m pc ls st0) := by
  intro T hT X
  rcases hr T hT X with ⟨v, st₀, t, T', L, h0, X', hL, e1, e2, ⟨v', ws', hv, hp, hP', hD', hF⟩, st⟩ | ⟨q, st₀, t, T', L, E, ce, h0, X', hL, e1, e2, ⟨ws', hp, hP', hD', hF⟩, hce, hcv, hcl, st⟩
  · cases hv
    obtain ⟨k1, k2, k3⟩ := vx_keep h0 e1 hS (fun _ _ h => h) (fun _ h => h) hL hF
    obtain ⟨t2, a1, b1⟩ := kk v ws' T'.heap (locs ++ L) hp (by rw [e1]; exact hP') hD' k3 T' rfl X'
    exact ⟨t2, st t2 a1, b1⟩
  · obtain ⟨k1, k2, k3⟩ := vx_keep h0 e1 hS (fun _ _ h => h) (fun _ h => h) hL hF
    obtain ⟨t2, a1, b1⟩ := kx E ce q ws' T'.heap (locs ++ L) hp (by rw [e1]; exact hP') hD' k3 (by rw [e1]; exact hce) hcv hcl T' rfl X'
    exact ⟨t2, st.trans a1, b1⟩
theorem c_runN {mc ms : Nat} {a : Array Value} (hr : va_Run p l e R s m args below meth c H locs cells slots mc ms (F0 m pc ls st0) rest (QR ε post a) (AA ε)) (hS : WS ε s.heap H locs)
    (kk : ∀ (v : Option Value) (ws1 : va_W) (H1 : Heap) (locs1 : List Loc), post v ws1 → WP ε ws1 H1 → WD ε ws1 → WS ε s.heap H1 locs1 → W p l e R s m args below meth c H1 locs1 (cells + mc) (slots + ms) Q (F0 m (pc + 3) ls (v.toList ++ rest))) : W p l e R s m args below meth c H locs cells slots Q (F0 m pc ls st0) := by
  intro T hT X
  obtain ⟨v, st₀, t, T', L, h0, X', hL, e1, e2, ⟨v', ws', hv, hp, hP', hD', hF⟩, st⟩ := hr T hT X
  cases hv
  obtain ⟨k1, k2, k3⟩ := vx_keep h0 e1 hS (fun _ _ h => h) (fun _ h => h) hL hF
  obtain ⟨t2, a1, b1⟩ := kk v ws' T'.heap (locs ++ L) hp (by rw [e1]; exact hP') hD' k3 T' rfl X'
  exact ⟨t2, st t2 a1, b1⟩
theorem c_pay {args : Array Value} {s : State} (hts : ∀ w ∈ WALL, w.before args s = true) {w0 : Cond} (h0 : w0 ∈ WALL) : ∀ w ∈ w0 :: WALL, ∀ (a' : Array Value) (U : State), s.WarmedH U.vm → w.before a' U = true := fun w hw a' U hW => by
  have hw' : w ∈ WALL := (List.mem_cons.mp hw).elim (fun z => by rw [z]; exact h0) id
  exact word_at hW (good_of_word (WALL_good w hw')) (hts w hw')
theorem c_len {y : MethodName} {n : Nat} (h : (parseMethodDescriptor y.desc).map (fun d => d.parameters.length) = some n) : ∀ sig, parseMethodDescriptor y.desc = some sig → n = sig.parameters.length := fun sig hs => by
  rw [hs] at h
  exact (Option.some.inj h).symm
theorem c_callV {y : MethodName} {cc' : ByteArray} {mL' n index b ci N : Nat} {ret' : Option FieldType} {rm' : Room} {As : List Value} {fs : List Value} {T : u_T}
    (hC : CTX p s m args meth c cc mL ret own nm tb) (hE : ENV ε s s.heap) (hP : WP ε ws H) (hD : WD ε ws) (hS : WS ε s.heap H locs) (hsz : ls.size = mL)
    (hM : CT l y cc' mL' ret' rm' ε (.ref b :: As) ws post px) (w1 : Cond.methodLink own index y ∈ WALL) (w2 : Cond.instanceMethod y ∈ WALL) (w3 : Cond.selects y.cls y y ∈ WALL) (w4 : Cond.initialized y.cls ∈ WALL) (w5 : Cond.code y cc' mL' ret' ∈ WALL)
    (hrv : In ws b (.inr (ci, fs))) (hcl : vwCl[ci]? = some (y.cls, T, N)) (hd : (y.cls ≠ "java/lang/invoke/MethodHandle" ∧ y.cls ≠ "java/lang/invoke/VarHandle") ∧ (parseMethodDescriptor y.desc).map (fun d => d.parameters.length) = some n) (hn : As.length = n)
    (hR : (rm'.frames + 1 ≤ R.frames ∧ 8 + (mL' + 11) + rm'.locals ≤ R.locals) ∧ (cells + rm'.cells ≤ R.cells ∧ slots + rm'.slots ≤ R.slots)) (hW : (rest.map fun v => v.category).sum ≤ 8) (hst : st0 = As.reverse ++ .ref b :: rest) (hdg : decode cc pc = .ok (.invokevirtual index, 3))
    (kx : ∀ (E : String) (ce : Cell) (q9 : Addr) (ws1 : va_W) (H1 : Heap) (locs1 : List Loc), px E ws1 → WP ε ws1 H1 → WD ε ws1 → WS ε s.heap H1 locs1 → H1[q9]? = some ce → ce.vm = .none → s.vm.findClass E = some ce.cls → vx_W p l e R s m args below meth c H1 locs1 (cells + rm'.cells) (slots + rm'.slots) Q (F0 m pc ls rest) q9)
    (kk : ∀ (v : Option Value) (ws1 : va_W) (H1 : Heap) (locs1 : List Loc), post v ws1 → WP ε ws1 H1 → WD ε ws1 → WS ε s.heap H1 locs1 → W p l e R s m args below meth c H1 locs1 (cells + rm'.cells) (slots + rm'.slots) Q (F0 m (pc + 3) ls (v.toList ++ rest))) : W p l e R s m args below meth c H locs cells slots Q (F0 m pc ls st0) := by
  obtain ⟨hx, hb, hml, ho, hts, -⟩ := hC
  obtain ⟨kq, hkq⟩ := hrv
  exact c_run (vx_runV (C := y.cls) (Ts := WALL) ⟨hx, hb, hml, ho, hts⟩ hM
    ⟨⟨rfl, rfl, hR.1.1, hR.1.2, c_pay hts w5, List.mem_cons_self, hts _ w5, hts _ w4, hd.1, c_len hd.2, hts _ w1⟩, hts _ w2, hts _ w3⟩
    ⟨PR.blind, va_recv hE.K hP hcl hkq, fun U hU hWU => ⟨rfl, by rw [hU]; exact hE.go hS hWU, by rw [hU]; exact hP, hD⟩⟩ rfl hn hsz hst (lv_room hW) hdg hR.2) hS kx kk
theorem c_callS {y : MethodName} {cc' : ByteArray} {mL' n index : Nat} {ret' : Option FieldType} {rm' : Room} {As : List Value}
    (hC : CTX p s m args meth c cc mL ret own nm tb) (hE : ENV ε s s.heap) (hP : WP ε ws H) (hD : WD ε ws) (hS : WS ε s.heap H locs) (hsz : ls.size = mL)
    (hM : CT l y cc' mL' ret' rm' ε As ws post px) (w1 : Cond.methodLink own index y ∈ WALL) (w2 : Cond.static y ∈ WALL) (w4 : Cond.initialized y.cls ∈ WALL) (w5 : Cond.code y cc' mL' ret' ∈ WALL)
    (hd : (y.cls ≠ "java/lang/invoke/MethodHandle" ∧ y.cls ≠ "java/lang/invoke/VarHandle") ∧ (parseMethodDescriptor y.desc).map (fun d => d.parameters.length) = some n) (hn : As.length = n)
    (hR : (rm'.frames + 1 ≤ R.frames ∧ 8 + (mL' + 11) + rm'.locals ≤ R.locals) ∧ (cells + rm'.cells ≤ R.cells ∧ slots + rm'.slots ≤ R.slots)) (hW : (rest.map fun v => v.category).sum ≤ 8) (hst : st0 = As.reverse ++ rest) (hdg : decode cc pc = .ok (.invokestatic index, 3))
    (kx : ∀ (E : String) (ce : Cell) (q9 : Addr) (ws1 : va_W) (H1 : Heap) (locs1 : List Loc), px E ws1 → WP ε ws1 H1 → WD ε ws1 → WS ε s.heap H1 locs1 → H1[q9]? = some ce → ce.vm = .none → s.vm.findClass E = some ce.cls → vx_W p l e R s m args below meth c H1 locs1 (cells + rm'.cells) (slots + rm'.slots) Q (F0 m pc ls rest) q9)
    (kk : ∀ (v : Option Value) (ws1 : va_W) (H1 : Heap) (locs1 : List Loc), post v ws1 → WP ε ws1 H1 → WD ε ws1 → WS ε s.heap H1 locs1 → W p l e R s m args below meth c H1 locs1 (cells + rm'.cells) (slots + rm'.slots) Q (F0 m (pc + 3) ls (v.toList ++ rest))) : W p l e R s m args below meth c H locs cells slots Q (F0 m pc ls st0) := by
  obtain ⟨hx, hb, hml, ho, hts, -⟩ := hC
  exact c_run (vx_runS (Ts := WALL) ⟨hx, hb, hml, ho, hts⟩ hM
    ⟨⟨rfl, rfl, hR.1.1, hR.1.2, c_pay hts w5, List.mem_cons_self, hts _ w5, hts _ w4, hd.1, c_len hd.2, hts _ w1⟩, hts _ w2⟩
    ⟨PR.blind, fun U hU hWU => ⟨rfl, by rw [hU]; exact hE.go hS hWU, by rw [hU]; exact hP, hD⟩⟩ rfl hn hsz hst (lv_room hW) hdg hR.2) hS kx kk
theorem c_callSW {y : MethodName} {cc' : ByteArray} {mL' n index : Nat} {ret' : Option FieldType} {hh : List (Nat × Nat × Nat × Nat)} {rm' : Room} {As : List Value}
    (hC : CTX p s m args meth c cc mL ret own nm tb) (hE : ENV ε s s.heap) (hP : WP ε ws H) (hD : WD ε ws) (hS : WS ε s.heap H locs) (hsz : ls.size = mL)
    (hM : CTW l y cc' mL' ret' hh rm' ε As ws post px) (w1 : Cond.methodLink own index y ∈ WALL) (w2 : Cond.static y ∈ WALL) (w4 : Cond.initialized y.cls ∈ WALL) (w5 : Cond.codeWith y cc' mL' ret' hh ∈ WALL)
    (hd : (y.cls ≠ "java/lang/invoke/MethodHandle" ∧ y.cls ≠ "java/lang/invoke/VarHandle") ∧ (parseMethodDescriptor y.desc).map (fun d => d.parameters.length) = some n) (hn : As.length = n)
    (hR : (rm'.frames + 1 ≤ R.frames ∧ 8 + (mL' + 11) + rm'.locals ≤ R.locals) ∧ (cells + rm'.cells ≤ R.cells ∧ slots + rm'.slots ≤ R.slots)) (hW : (rest.map fun v => v.category).sum ≤ 8) (hst : st0 = As.reverse ++ rest) (hdg : decode cc pc = .ok (.invokestatic index, 3))
    (kx : ∀ (E : String) (ce : Cell) (q9 : Addr) (ws1 : va_W) (H1 : Heap) (locs1 : List Loc), px E ws1 → WP ε ws1 H1 → WD ε ws1 → WS ε s.heap H1 locs1 → H1[q9]? = some ce → ce.vm = .none → s.vm.findClass E = some ce.cls → vx_W p l e R s m args below meth c H1 locs1 (cells + rm'.cells) (slots + rm'.slots) Q (F0 m pc ls rest) q9)
    (kk : ∀ (v : Option Value) (ws1 : va_W) (H1 : Heap) (locs1 : List Loc), post v ws1 → WP ε ws1 H1 → WD ε ws1 → WS ε s.heap H1 locs1 → W p l e R s m args below meth c H1 locs1 (cells + rm'.cells) (slots + rm'.slots) Q (F0 m (pc + 3) ls (v.toList ++ rest))) : W p l e R s m args below meth c H locs cells slots Q (F0 m pc ls st0) := by
  obtain ⟨hx, hb, hml, ho, hts, -⟩ := hC
  exact c_run (vx_runSX (hh := hh) (Ts := WALL) ⟨hx, hb, hml, ho, hts⟩ hM
    ⟨⟨rfl, rfl, hR.1.1, hR.1.2, c_pay hts w5, List.mem_cons_self⟩, hts _ w5, hts _ w4, hd.1, c_len hd.2, hts _ w1, hts _ w2⟩
    ⟨PR.blind, fun U hU hWU => ⟨rfl, by rw [hU]; exact hE.go hS hWU, by rw [hU]; exact hP, hD⟩⟩ rfl hn hsz hst (lv_room hW) hdg hR.2) hS kx kk
theorem c_callI {y : MethodName} {cc' : ByteArray} {mL' n index b : Nat} {rm' : Room} {As : List Value}
    (hC : CTX p s m args meth c cc mL ret own nm tb) (hE : ENV ε s s.heap) (hP : WP ε ws H) (hD : WD ε ws) (hS : WS ε s.heap H locs) (hsz : ls.size = mL)
    (hM : CT l y cc' mL' none rm' ε (.ref b :: As) ws post NX) (w1 : Cond.methodLink own index y ∈ WALL) (w2 : Cond.instanceMethod y ∈ WALL) (w4 : Cond.initialized y.cls ∈ WALL) (w5 : Cond.code y cc' mL' none ∈ WALL) (hy : y.name = "<init>")
    (hd : (y.cls ≠ "java/lang/invoke/MethodHandle" ∧ y.cls ≠ "java/lang/invoke/VarHandle") ∧ (parseMethodDescriptor y.desc).map (fun d => d.parameters.length) = some n) (hn : As.length = n)
    (hR : (rm'.frames + 1 ≤ R.frames ∧ 8 + (mL' + 11) + rm'.locals ≤ R.locals) ∧ (cells + rm'.cells ≤ R.cells ∧ slots + rm'.slots ≤ R.slots)) (hW : (rest.map fun v => v.category).sum ≤ 8) (hst : st0 = As.reverse ++ .ref b :: rest) (hdg : decode cc pc = .ok (.invokespecial index, 3))
    (kk : ∀ (v : Option Value) (ws1 : va_W) (H1 : Heap) (locs1 : List Loc), post v ws1 → WP ε ws1 H1 → WD ε ws1 → WS ε s.heap H1 locs1 → W p l e R s m args below meth c H1 locs1 (cells + rm'.cells) (slots + rm'.slots) Q (F0 m (pc + 3) ls (v.toList ++ rest))) : W p l e R s m args below meth c H locs cells slots Q (F0 m pc ls st0) := by
  obtain ⟨hx, hb, hml, ho, hts, -⟩ := hC
  exact c_runN (va_runI (Ts := WALL) ⟨hx, hb, hml, ho, hts⟩ (CT.met hM)
    ⟨⟨rfl, rfl, hR.1.1, hR.1.2, c_pay hts w5, List.mem_cons_self, hts _ w5, hts _ w4, hd.1, c_len hd.2, hts _ w1⟩, hy, hts _ w2⟩
    ⟨PR.blind, fun U hU hWU => ⟨rfl, by rw [hU]; exact hE.go hS hWU, by rw [hU]; exact hP, hD⟩⟩ rfl hn hsz hst (lv_room hW) hdg hR.2) hS kk
theorem kxN {mc ms : Nat} : ∀ (E : String) (ce : Cell) (q9 : Addr) (ws1 : va_W) (H1 : Heap) (locs1 : List Loc), NX E ws1 → WP ε ws1 H1 → WD ε ws1 → WS ε s.heap H1 locs1 → H1[q9]? = some ce → ce.vm = .none → s.vm.findClass E = some ce.cls → vx_W p l e R s m args below meth c H1 locs1 (cells + mc) (slots + ms) Q (F0 m pc ls rest) q9 := fun _ _ _ _ _ _ h => h.elim
/-- a throw out of a callee goes on to the caller: no row of the table covers this place -/
theorem c_out {mc ms : Nat} {E : String} {ce : Cell} {q9 : Addr} (hC : CTX p s m args meth c cc mL ret own nm []) (hQ : Q = vx_MQ below (QR ε post) (XR ε px) args s mc ms (AA ε)) (hP : WP ε ws H) (hD : WD ε ws) (hS : WS ε s.heap H locs) (h1 : H[q9]? = some ce) (h2 : ce.vm = .none) (h3 : s.vm.findClass E = some ce.cls) (hc : cells ≤ mc) (hs : slots ≤ ms) (hq : px E ws) : vx_W p l e R s m args below meth c H locs cells slots Q (F0 m pc ls rest) q9 := by
  subst hQ
  obtain ⟨hx, hb, -, -, -, hr, hlk, htb, -⟩ := hC
  refine vx_out (fun x hx9 => by rw [htb] at hx9; exact absurd hx9 List.not_mem_nil) hlk h1 h2 h3 (fun t ht _ => ⟨ws, hq, by rw [ht]; exact hP, hD, va_S.F hS ht⟩) hS.2.2 hc hs
end CR
