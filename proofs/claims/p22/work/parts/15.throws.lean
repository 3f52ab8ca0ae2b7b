/-! throw new E("text") in the class -/
def nms : List String := ["java/lang/RuntimeException", "java/lang/Exception"]
theorem at_bad_ISE : ∀ w ∈ (vx_atS RX4 41 "java/lang/IllegalStateException" ["java/lang/RuntimeException", "java/lang/Exception"]).filter (fun w => !goodWord w), w ∈ castW ++ declW := by decide +kernel
theorem at_bad_IAE : ∀ w ∈ (vx_atS RX4 187 "java/lang/IllegalArgumentException" ["java/lang/RuntimeException", "java/lang/Exception"]).filter (fun w => !goodWord w), w ∈ castW ++ declW := by decide +kernel
theorem at_bad_IOE : ∀ w ∈ (vx_atS RX4 192 "java/lang/IndexOutOfBoundsException" ["java/lang/RuntimeException", "java/lang/Exception"]).filter (fun w => !goodWord w), w ∈ castW ++ declW := by decide +kernel
theorem at_ot_ISE : ∀ w ∈ vx_atS RX4 41 "java/lang/IllegalStateException" ["java/lang/RuntimeException", "java/lang/Exception"], vx_ot w = true := by decide +kernel
theorem at_ot_IAE : ∀ w ∈ vx_atS RX4 187 "java/lang/IllegalArgumentException" ["java/lang/RuntimeException", "java/lang/Exception"], vx_ot w = true := by decide +kernel
theorem at_ot_IOE : ∀ w ∈ vx_atS RX4 192 "java/lang/IndexOutOfBoundsException" ["java/lang/RuntimeException", "java/lang/Exception"], vx_ot w = true := by decide +kernel
/-- the three exceptions: the class, the index of its constructor, of its name -/
def THR (cls : String) (ik ic : Nat) : Prop := (cls = nISE ∧ ik = 37 ∧ ic = 41) ∨ (cls = nIAE ∧ ik = 183 ∧ ic = 187) ∨ (cls = nIOE ∧ ik = 188 ∧ ic = 192)
theorem at_all {ε : EV} {args : Array Value} {s : State} {H : Heap} {cls : String} {ik ic : Nat} (h : THR cls ik ic) (hts : ∀ w ∈ WALL, w.before args s = true) (hE : ENV ε s H) :
    (∀ w ∈ vx_atS RX4 ic cls ["java/lang/RuntimeException", "java/lang/Exception"], w.before args s = true) ∧ (∀ w ∈ vx_atS RX4 ic cls ["java/lang/RuntimeException", "java/lang/Exception"], vx_ot w = true) ∧ Cond.classLink RX4 ik cls ∈ WALL ∧ Cond.initialized cls ∈ WALL ∧ Bundle.fit cls = true := by
  have hB : ∀ w ∈ castW ++ declW, w.before args s = true := fun w hw => by
    rcases List.mem_append.mp hw with hw | hw
    · obtain ⟨C, T, rfl, h9⟩ := hE.2.2.1 w hw
      exact va_Nw.use rfl h9
    · obtain ⟨y, rfl, h9⟩ := hE.2.2.2.2.2.2.2.2.2.2.2.2 w hw
      exact va_Nw.use rfl h9
  rcases h with ⟨rfl, rfl, rfl⟩ | ⟨rfl, rfl, rfl⟩ | ⟨rfl, rfl, rfl⟩
  · exact ⟨vx_hat (fun w hw => hts w (wt_7 w hw)) at_bad_ISE hB, at_ot_ISE, m_5_3, m_5_4, by decide +kernel⟩
  · exact ⟨vx_hat (fun w hw => hts w (wt_8 w hw)) at_bad_IAE hB, at_ot_IAE, m_5_8, m_5_9, by decide +kernel⟩
  · exact ⟨vx_hat (fun w hw => hts w (wt_9 w hw)) at_bad_IOE hB, at_ot_IOE, m_3_18, m_3_19, by decide +kernel⟩
section CTH
variable {p : Program} {l : Launch} {e : Env} {R : Room} {s : State} {m : MethodId} {args : Array Value} {below : List Frame} {meth : Method} {c : Code} {H : Heap} {locs : List Loc} {cells slots : Nat} {Q : State → Prop}
variable {cc : ByteArray} {pc : Nat} {ls : Array Slot} {rest : List Value} {ε : EV} {ws : va_W} {mL : Nat} {ret : Option FieldType} {nm : String} {post : Option Value → va_W → Prop} {px : String → va_W → Prop}
theorem c_throw {cls text : String} {ik is ic mc ms : Nat} (hC : CTX p s m args meth c cc mL ret RX4 nm []) (hlt : l.stackTraces = false) (hQ : Q = vx_MQ below (QR ε post) (XR ε px) args s mc ms (AA ε)) (hE : ENV ε s s.heap) (hP : WP ε ws H) (hD : WD ε ws) (hS : WS ε s.heap H locs) (hsz : ls.size = mL)
    (ht : THR cls ik ic) (hs9 : (is, text) ∈ strT) (d0 : decode cc pc = .ok (.new ik, 3)) (d3 : decode cc (pc + 3) = .ok (.dup, 1)) (d4 : decode cc (pc + 4) = .ok (.ldc is, 2)) (d6 : decode cc (pc + 6) = .ok (.invokespecial ic, 3)) (d9 : decode cc (pc + 9) = .ok (.athrow, 1))
    (hR : 5 < R.frames ∧ (rest.map fun v => v.category).sum + 82 ≤ R.locals ∧ cells + 1 ≤ R.cells ∧ slots + 6 ≤ R.slots) (hm : cells + 1 ≤ mc ∧ slots + 6 ≤ ms) (hq : px cls ws) : W p l e R s m args below meth c H locs cells slots Q (F0 m pc ls rest) := by
  subst hQ
  obtain ⟨hx, hb, hml, ho, hts, hr, hlk, htb, -⟩ := hC
  obtain ⟨a1, a2, a3, a4, a5⟩ := at_all ht hts hE
  obtain ⟨sa, hsa⟩ := hE.2.2.2.2.2.2.2.2.2.2.2.1 _ hs9
  have hg : ∀ w ∈ Cond.classLink RX4 ik cls :: Cond.initialized cls :: vx_atS RX4 ic cls ["java/lang/RuntimeException", "java/lang/Exception"], vx_ot w = true := fun w hw => by
    rcases List.mem_cons.mp hw with rfl | hw
    · rfl
    · rcases List.mem_cons.mp hw with rfl | hw
      · rfl
      · exact a2 w hw
  exact vx_throwS (A := AA ε) (names := ["java/lang/RuntimeException", "java/lang/Exception"]) hx hb hlt ho a5 (by decide +kernel) (hts _ a3) (hts _ a4) hsa a1 hg hE.2.2.2.2.2.2.1 hE.2.2.2.2.2.2.2.1 hS (hsz.trans hml.symm) d0 d3 d4 d6 d9
    (fun x hx9 => by rw [htb] at hx9; exact absurd hx9 List.not_mem_nil) hR.1 hR.2.1 hR.2.2.1 hR.2.2.2 hlk
    (fun t hv hz hk => ⟨ws, hq, hP.kept (fun k q hkq => hk q.1 ((hP k q hkq).lt)), hD, ⟨Nat.le_trans hS.1 hz, fun q h1 h2 => (hk q (Nat.lt_of_lt_of_le h1 hS.1)).trans (hS.2.1 q h1 h2)⟩⟩) hS.2.2 hm.1 hm.2
end CTH
