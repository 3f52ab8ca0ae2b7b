/-! what holds in the law's own loop: k patterns, lamps and notices, every fourth a chart -/
def JK (k : Int) (n : Nat → Int) (G : Nat → Nat → Int) : Prop := ((n 0 = 0 ∧ n 1 = k) ∧ (n 2 = k ∧ n 3 = k) ∧ n 4 = (k + 3) / 4) ∧ ∀ j : Int, 0 ≤ j → j < k → G 11 j.toNat = 33 * j
def PF (k p1 p2 : Int) (G : Nat → Nat → Int) : Prop := (G 2 k.toNat = 2 ∧ G 3 k.toNat = p1 + p2) ∧ ph G k 0 = p1 ∧ ph G k 1 = p2
def LF (k xx yy : Int) (G : Nat → Nat → Int) : Prop := (G 4 k.toNat = xx ∧ G 5 k.toNat = yy) ∧ (G 6 k.toNat = k ∧ G 7 k.toNat = 0) ∧ 1 ≤ G 8 k.toNat ∧ G 10 k.toNat = 0
def JP (k p1 p2 : Int) (n : Nat → Int) (G : Nat → Nat → Int) : Prop := ((n 0 = 0 ∧ n 1 = k + 1) ∧ (n 2 = k ∧ n 3 = k) ∧ n 4 = (k + 3) / 4) ∧ (∀ j : Int, 0 ≤ j → j < k → G 11 j.toNat = 33 * j) ∧ PF k p1 p2 G
def JL (k p1 p2 xx yy : Int) (n : Nat → Int) (G : Nat → Nat → Int) : Prop := ((n 0 = 0 ∧ n 1 = k + 1) ∧ (n 2 = k + 1 ∧ n 3 = k + 1) ∧ n 4 = (k + 3) / 4) ∧ (∀ j : Int, 0 ≤ j → j < k + 1 → G 11 j.toNat = 33 * j) ∧ PF k p1 p2 G ∧ LF k xx yy G
theorem JP.of {n : Nat → Int} {G : Nat → Nat → Int} {k p1 p2 : Int} (hk : 0 ≤ k) (h0 : n 0 = 2) (h1 : n 1 = k) (h2 : n 2 = k ∧ n 3 = k) (h4 : n 4 = (k + 3) / 4) (g0 : G 0 0 = p1) (g1 : G 0 1 = p2) (g3 : G 3 k.toNat = 0) (hj : ∀ j : Int, 0 ≤ j → j < k → G 11 j.toNat = 33 * j) :
    JP k p1 p2 (va_up (va_up n 0 0) 1 (n 1 + 1)) (GP n G) := by
  have e2 : GP n G 2 k.toNat = va_up (G 2) (n 1).toNat (n 0) k.toNat := rfl
  have e3 : GP n G 3 k.toNat = va_up (G 3) (n 1).toNat (G 3 (n 1).toNat + sf (fun j => G 0 j.toNat) (n 0).toNat 0) k.toNat := rfl
  refine ⟨⟨⟨rfl, ?_⟩, h2, h4⟩, hj, ⟨?_, ?_⟩, ?_, ?_⟩
  · show n 1 + 1 = k + 1
    rw [h1]
  · rw [e2, h1, va_up_self, h0]
  · rw [e3, h1, va_up_self, h0, g3]
    show 0 + (G 0 0 + (G 0 1 + 0)) = p1 + p2
    rw [g0, g1]
    omega
  · rw [GP_ph, h1, h0, if_pos ⟨by omega, by omega⟩, show (((6 * k + 0).toNat : Int) - 6 * k).toNat = 0 by omega, g0]
  · rw [GP_ph, h1, h0, if_pos ⟨by omega, by omega⟩, show (((6 * k + 1).toNat : Int) - 6 * k).toNat = 1 by omega, g1]
theorem JL.of {n : Nat → Int} {G : Nat → Nat → Int} {k p1 p2 x9 y9 rc se : Int} (hk : 0 ≤ k) (h : JP k p1 p2 n G) (hI : INV n G) (hrc : 1 ≤ rc) :
    JL k p1 p2 x9 y9 (va_up (va_up n 2 (n 2 + 1)) 3 (n 3 + 1)) (va_up (GL n G x9 y9 k rc se) 11 (va_up ((GL n G x9 y9 k rc se) 11) ((n 3).toNat) (NV (GL n G x9 y9 k rc se) (n 2)))) := by
  obtain ⟨⟨⟨a0, a1⟩, ⟨a2, a3⟩, a4⟩, aj, hp⟩ := h
  have hz := hI.2.2.2.2.2.2.1 k (by omega)
  have e4 : GL n G x9 y9 k rc se 4 = va_up (G 4) (n 2).toNat x9 := rfl
  have e5 : GL n G x9 y9 k rc se 5 = va_up (G 5) (n 2).toNat y9 := rfl
  have e6 : GL n G x9 y9 k rc se 6 = va_up (G 6) (n 2).toNat k := rfl
  have e8 : GL n G x9 y9 k rc se 8 = va_up (G 8) (n 2).toNat rc := rfl
  have e10 : GL n G x9 y9 k rc se 10 = G 10 := rfl
  have e11 : GL n G x9 y9 k rc se 11 = G 11 := rfl
  have hnv : NV (GL n G x9 y9 k rc se) (n 2) = 33 * k := by
    unfold NV
    rw [e10, e6, a2, va_up_self, hz.2, if_pos rfl]
    omega
  refine ⟨⟨⟨a0, a1⟩, ⟨?_, ?_⟩, a4⟩, fun j a b => ?_, hp, ⟨?_, ?_⟩, ⟨?_, hz.1⟩, ?_, hz.2⟩
  · show n 2 + 1 = k + 1
    rw [a2]
  · show n 3 + 1 = k + 1
    rw [a3]
  · show va_up ((GL n G x9 y9 k rc se) 11) ((n 3).toNat) (NV (GL n G x9 y9 k rc se) (n 2)) j.toNat = 33 * j
    rw [hnv, e11, a3]
    by_cases e : j = k
    · rw [e, va_up_self]
    · rw [va_up_ne _ _ (by omega)]
      exact aj j a (by omega)
  · show GL n G x9 y9 k rc se 4 k.toNat = x9
    rw [e4, a2, va_up_self]
  · show GL n G x9 y9 k rc se 5 k.toNat = y9
    rw [e5, a2, va_up_self]
  · show GL n G x9 y9 k rc se 6 k.toNat = k
    rw [e6, a2, va_up_self]
  · show 1 ≤ GL n G x9 y9 k rc se 8 k.toNat
    rw [e8, a2, va_up_self]
    exact hrc
section JA
variable {k p1 p2 xx yy : Int} {G : Nat → Nat → Int}
theorem PF.lq (h : PF k p1 p2 G) (t : Int) : LQ G k t = litF (ph G k) 2 0 (t % (p1 + p2)) := by
  obtain ⟨⟨h2, h3⟩, -, -⟩ := h
  unfold LQ lt
  rw [h3, show cq G k = 2 from by show (G 2 k.toNat).toNat = 2; rw [h2]; rfl]
theorem PF.light (h : PF k p1 p2 G) {t : Int} (h0 : 0 ≤ t) (h1 : t < p1) (h2 : 1 ≤ p2) : LQ G k t = true := by
  rw [h.lq, Int.emod_eq_of_lt h0 (by omega)]
  show (if t < ph G k 0 then decide ((0 : Int) % 2 = 0) else litF (ph G k) 1 (0 + 1) (t - ph G k 0)) = true
  rw [h.2.1, if_pos h1]
  rfl
theorem PF.dark (h : PF k p1 p2 G) (h1 : 1 ≤ p1) (h2 : 1 ≤ p2) : LQ G k p1 = false := by
  rw [h.lq, Int.emod_eq_of_lt (by omega) (by omega)]
  show (if p1 < ph G k 0 then decide ((0 : Int) % 2 = 0) else (if p1 - ph G k 0 < ph G k 1 then decide (((0 : Int) + 1) % 2 = 0) else litF (ph G k) 0 (0 + 1 + 1) (p1 - ph G k 0 - ph G k 1))) = false
  rw [h.2.1, h.2.2, if_neg (by omega), if_pos (by omega)]
  rfl
theorem LF.on (h : LF k xx yy G) (t : Int) : ON G k t = LQ G k t := by
  obtain ⟨-, ⟨h6, h7⟩, -, h10⟩ := h
  unfold ON
  rw [h6, h7, h10, Int.add_zero]
  rfl
theorem LF.seen (h : LF k xx yy G) (hx : 0 ≤ xx ∧ xx < 32) (hy : 0 ≤ yy ∧ yy < 32) : seeB G k xx yy = true := by
  obtain ⟨⟨h4, h5⟩, -, h8, -⟩ := h
  unfold seeB visB withB
  rw [h4, h5, Int.sub_self, Int.sub_self]
  simp only [Bool.and_eq_true, Bool.or_eq_true, decide_eq_true_eq]
  have e : ab 0 = 0 := rfl
  exact ⟨⟨⟨hy.1, hy.2⟩, hx.1, hx.2⟩, ⟨by omega, by omega⟩, Or.inl rfl⟩
theorem cycF_pos (D : Nat → Int) (c : Int) (hc : 0 < c) : ∀ (f : Nat) (few : Int), 0 < few → 0 < cycF D c f few := by
  intro f
  induction f with
  | zero => intro few _; exact hc
  | succ f ih =>
    intro few h
    unfold cycF
    split
    · split
      · exact h
      · exact ih (few + 2) (by omega)
    · exact hc
theorem ph1B_self {q : Int} (h : PQ G q) : ph1B G q q = true := by
  refine (ph1B_ok G q q).mpr ⟨rfl, 0, Int.le_refl 0, ?_, rfl, fun i a b => ?_⟩
  · exact cycF_pos _ _ (by have z := h.1; omega) 3 2 (by decide)
  · have e : tn (CYC (DG G q) (cq G q)) 0 i = i := by
      unfold tn
      rw [if_pos (by omega)]
      omega
    show DG G q (tn (CYC (DG G q) (cq G q)) 0 i).toNat = DG G q i.toNat
    rw [e]
theorem shB_comm (i j : Int) : shB G i j = shB G j i := by
  unfold shB
  refine SUMF_eq (fun row => ?_) 32
  rw [show (fun u => visB G i row u && visB G j row u) = (fun u => visB G j row u && visB G i row u) from funext fun u => Bool.and_comm _ _]
theorem tkB_none {p : Int → Bool} : ∀ m : Nat, tkB p m = -1 → ∀ u : Int, 0 ≤ u → u < m → p u = false := by
  intro m
  induction m with
  | zero => intro _ u a b; exfalso; omega
  | succ m ih =>
    intro h u a b
    have h1 : (if p (m : Int) = true then (if tkB p m = -1 then (m : Int) else -2) else tkB p m) = -1 := h
    by_cases e : p (m : Int) = true
    · rw [if_pos e] at h1
      split at h1
      · omega
      · omega
    · rw [if_neg e] at h1
      by_cases e2 : u = m
      · rw [e2]; exact Bool.eq_false_iff.mpr e
      · exact ih h1 u a (by omega)
theorem takB_bd (G : Nat → Nat → Int) (ch x y i fr many : Int) (m : Nat) : -2 ≤ takB G ch x y i fr many m ∧ takB G ch x y i fr many m ≤ m := by
  rw [← takB_ok]
  exact TK.bd _ m
/-! a chart more -/
theorem PUT.at {ch : Int} {r : Nat} (h1 : r ≠ 12) (h2 : r ≠ 13) : ∀ m : Nat, PUT ch G m r = G r := by
  intro m
  induction m with
  | zero => rfl
  | succ m ih =>
    show putG ch (PUT ch G m) r = G r
    unfold putG
    rw [va_up_ne _ _ h1, va_up_ne _ _ h2, ih]
theorem PUT.sh {c : Int} {r : Nat} (h1 : r ≠ 12) (h2 : r ≠ 13) (m : Nat) : PUT c (SH G c 12) m r = G r := by
  rw [PUT.at h1 h2]
  unfold SH
  rw [va_up_ne _ _ h2]
theorem PUT.row {c : Int} (hc : 0 ≤ c) (hk : k ≤ 11) (h12 : G 12 c.toNat = 0) (hj : ∀ j : Int, 0 ≤ j → j < k + 1 → G 11 j.toNat = 33 * j) : ∀ m : Nat, (m : Int) ≤ k + 1 → ∀ u : Int, 0 ≤ u → u < m → PUT c G m 13 (12 * c + u).toNat = u := by
  intro m
  induction m with
  | zero => intro _ u a b; exfalso; omega
  | succ m ih =>
    intro hm u a b
    have e12 : PUT c G m 12 c.toNat = (m : Int) := by rw [PUT.at12, h12]; omega
    have e11 : PUT c G m 11 (m : Int).toNat = 33 * (m : Int) := by rw [PUT.at11]; exact hj m (by omega) (by omega)
    show putG c (PUT c G m) 13 (12 * c + u).toNat = u
    unfold putG
    rw [va_up_ne _ _ (show (13 : Nat) ≠ 12 by decide), va_up_self, e12, e11, show 33 * (m : Int) / 32 = m by omega, show 33 * (m : Int) % 32 = m by omega, if_neg (by omega)]
    by_cases e : u = m
    · rw [e, va_up_self]
    · rw [va_up_ne _ _ (by omega)]
      exact ih (by omega) u a (by omega)
theorem PF.put {c : Int} (h : PF k p1 p2 G) (m : Nat) : PF k p1 p2 (PUT c (SH G c 12) m) := by
  unfold PF ph at h ⊢
  rw [PUT.sh (r := 2) (by decide) (by decide), PUT.sh (r := 3) (by decide) (by decide), PUT.sh (r := 1) (by decide) (by decide)]
  exact h
theorem LF.put {c : Int} (h : LF k xx yy G) (m : Nat) : LF k xx yy (PUT c (SH G c 12) m) := by
  unfold LF at h ⊢
  rw [PUT.sh (r := 4) (by decide) (by decide), PUT.sh (r := 5) (by decide) (by decide), PUT.sh (r := 6) (by decide) (by decide), PUT.sh (r := 7) (by decide) (by decide), PUT.sh (r := 8) (by decide) (by decide), PUT.sh (r := 10) (by decide) (by decide)]
  exact h
/-- the lamp k itself could be the light -/
theorem taken_self {c fr many : Int} {m : Nat} (hp : PF k p1 p2 G) (hl : LF k xx yy G) (hx : 0 ≤ xx ∧ xx < 32) (hy : 0 ≤ yy ∧ yy < 32) (h1 : 1 ≤ p1) (h2 : 1 ≤ p2) (hk : 0 ≤ k ∧ k < m) (h13 : G 13 (12 * c + k).toNat = k) : takB G c xx yy k 0 60 m ≠ -1 := by
  intro h
  have h3 := tkB_none m h k hk.1 hk.2
  have h4 : canB G c xx yy k 0 60 k = true := by
    unfold canB
    rw [h13, hl.seen hx hy, hp.1.2, decide_eq_true (by omega)]
    refine (exN_iff _).mpr ⟨0, Int.le_refl 0, by omega, ?_⟩
    unfold lookB
    refine (allN_iff _).mpr (fun u a b => ?_)
    rw [hl.on]
    exact beq_self_eq_true _
  rw [h4] at h3
  cases h3
end JA
theorem JL.print {k p1 p2 xx yy : Int} {n : Nat → Int} {G : Nat → Nat → Int} (hk : 0 ≤ k ∧ k ≤ 11) (h4 : k % 4 = 0) (h : JL k p1 p2 xx yy n G) (hI : INV n G) :
    ((va_up n 4 (n 4 + 1) 0 = 0 ∧ va_up n 4 (n 4 + 1) 1 = k + 1) ∧ (va_up n 4 (n 4 + 1) 2 = k + 1 ∧ va_up n 4 (n 4 + 1) 3 = k + 1) ∧ va_up n 4 (n 4 + 1) 4 = k / 4 + 1) ∧
    JK (k + 1) (va_up n 4 (n 4 + 1)) (PUT (n 4) (SH G (n 4) 12) (mn (n 3) (n 3 - G 12 (n 4).toNat)).toNat) ∧ PF k p1 p2 (PUT (n 4) (SH G (n 4) 12) (mn (n 3) (n 3 - G 12 (n 4).toNat)).toNat) ∧ LF k xx yy (PUT (n 4) (SH G (n 4) 12) (mn (n 3) (n 3 - G 12 (n 4).toNat)).toNat) ∧
    PUT (n 4) (SH G (n 4) 12) (mn (n 3) (n 3 - G 12 (n 4).toNat)).toNat 13 (12 * (k / 4) + k).toNat = k := by
  obtain ⟨⟨⟨a0, a1⟩, ⟨a2, a3⟩, a4⟩, aj, hp, hl⟩ := h
  have hz : G 12 (n 4).toNat = 0 := hI.2.2.2.2.2.2.2 (n 4) (Int.le_refl _)
  have e4 : n 4 = k / 4 := by omega
  have hm : (mn (n 3) (n 3 - G 12 (n 4).toNat)).toNat = (k + 1).toNat := by
    rw [hz, a3]
    unfold mn
    rw [if_pos (by omega)]
  rw [hm]
  have f4 : va_up n 4 (n 4 + 1) 4 = k / 4 + 1 := by rw [va_up_self, e4]
  refine ⟨⟨⟨a0, a1⟩, ⟨a2, a3⟩, f4⟩, ⟨⟨⟨a0, a1⟩, ⟨a2, a3⟩, by rw [f4]; omega⟩, fun j a b => ?_⟩, hp.put _, hl.put _, ?_⟩
  · rw [PUT.sh (r := 11) (by decide) (by decide)]
    exact aj j a b
  · rw [← e4]
    exact PUT.row (G := SH G (n 4) 12) (k := k) (by omega) hk.2 hz aj _ (by omega) k hk.1 (by omega)
theorem JL.next {k p1 p2 xx yy : Int} {n : Nat → Int} {G : Nat → Nat → Int} (hk : 0 ≤ k) (h4 : k % 4 ≠ 0) (h : JL k p1 p2 xx yy n G) : JK (k + 1) n G := by
  obtain ⟨⟨⟨a0, a1⟩, ⟨a2, a3⟩, a4⟩, aj, -⟩ := h
  exact ⟨⟨⟨a0, a1⟩, ⟨a2, a3⟩, by rw [a4]; omega⟩, aj⟩
section LWR
variable {p : Program} {l : Launch} {e : Env} {R : Room} {s : State} {m : MethodId} {args : Array Value} {below : List Frame} {meth : Method} {c : Code} {H H0 : Heap} {locs : List Loc} {cells slots : Nat} {Q : State → Prop}
variable {cc : ByteArray} {pc : Nat} {ls : Array Slot} {rest : List Value} {ε : EV} {mL : Nat} {ret : Option FieldType} {own nm : String} {tb : List ExceptionTableEntry}
def ZZ (xs : Nat → Int32) (z : Int) : Int := (xs z.toNat).toInt
theorem r_sld (hC : CTX p s m args meth c cc mL ret own nm tb) {b N : Nat} {xs : Nat → Int32} (hX : va_X b N xs s H0) (hbl : b < H0.size) (hbA : ¬ AA ε b) (hS : WS ε H0 H locs) {z : Int} (hz : 0 ≤ z ∧ z < N ∧ N ≤ 3584) (hdg : decode cc pc = .ok (.iaload, 1))
    (kk : W p l e R s m args below meth c H locs cells slots Q (F0 m (pc + 1) ls (.int (iv (ZZ xs z)) :: rest))) : W p l e R s m args below meth c H locs cells slots Q (F0 m pc ls (.int (iv z) :: .ref b :: rest)) := by
  refine va_sld hC.1 hC.2.1 hX hbl hbA hS (iv_in hz.1 hz.2.1 (by omega)) hdg ?_
  rw [iv_clamp ⟨by omega, by omega⟩, iv_of (xs z.toNat)]
  exact kk
theorem r_slen (hC : CTX p s m args meth c cc mL ret own nm tb) {b N : Nat} {xs : Nat → Int32} (hX : va_X b N xs s H0) (hbl : b < H0.size) (hbA : ¬ AA ε b) (hS : WS ε H0 H locs) (hdg : decode cc pc = .ok (.arraylength, 1))
    (kk : W p l e R s m args below meth c H locs cells slots Q (F0 m (pc + 1) ls (.int (iv (N : Int)) :: rest))) : W p l e R s m args below meth c H locs cells slots Q (F0 m pc ls (.ref b :: rest)) := by
  refine va_slen hC.1 hC.2.1 hX hbl hbA hS hdg ?_
  rw [iv_nat] at kk
  exact kk
theorem r_ushr8 (hx : p.tables.exec = Jvm.exec) (hb : c.code = cc) {v : Int} (hdg : decode cc pc = .ok (.iushr, 1))
    (kk : ∀ z : Int, 0 ≤ z → z < 16777216 → W p l e R s m args below meth c H locs cells slots Q (F0 m (pc + 1) ls (.int (iv z) :: rest))) : W p l e R s m args below meth c H locs cells slots Q (F0 m pc ls (.int (iv 8) :: .int (iv v) :: rest)) := by
  obtain ⟨m9, hm, e⟩ := wb_of32 (iv v)
  rw [e, ← iv_nat]
  have h256 : (2 : Int) ^ (8 : Int).toNat = 256 := by decide
  refine lv_iushr (x := iv (m9 : Int)) (y := iv 8) (v := iv ((m9 : Int) / 2 ^ (8 : Int).toNat)) hx hb hdg (iv_ushr ⟨by omega, by omega⟩ ⟨by decide, by decide⟩) ?_
  exact kk _ (by rw [h256]; omega) (by rw [h256]; omega)
theorem r_same_eq (hx : p.tables.exec = Jvm.exec) (hb : c.code = cc) {a : Int} {off : Int} {tgt : Nat} (hd : decode cc pc = .ok (.if_icmp .eq off, 3)) (ht : (pc : Int) + off = (tgt : Int)) (kt : W p l e R s m args below meth c H locs cells slots Q (F0 m tgt ls rest)) : W p l e R s m args below meth c H locs cells slots Q (F0 m pc ls (.int (iv a) :: .int (iv a) :: rest)) :=
  lv_icmp_eq hx hb hd ht (fun _ => kt) (fun q => absurd rfl q)
end LWR
abbrev rm_A_law : Room := room_1
/-- what stands through the law's own body -/
def LBX (ε : EV) (b L : Nat) (xs : Nat → Int32) (s : State) (meth : Method) (args : Array Value) (below : List Frame) (Q : State → Prop) : Prop :=
  args = #[Value.ref b] ∧ va_X b L xs s s.heap ∧ b < s.heap.size ∧ ¬ AA ε b ∧ L ≤ 260 ∧ ε.1 = s.heap.size ∧ meth.sig.returnType = ret ∧ meth.locks = false ∧ Q = lw_Z below args s
def LSG (l : Launch) (ε : EV) (b L : Nat) (xs : Nat → Int32) (pc C S : Nat) (lv : List (Nat × Value)) (P : va_W → Prop) : Prop :=
  ∀ (p : Program) (e : Env) (s : State) (m : MethodId) (args : Array Value) (below : List Frame) (meth : Method) (c : Code) (Q : State → Prop) (nm : String) (tb : List ExceptionTableEntry), CTX p s m args meth c code 4 ret RL nm tb → ENV ε s s.heap → LBX ε b L xs s meth args below Q →
    ∀ (H : Heap) (locs : List Loc) (ls : Array Slot) (w : va_W), P w → WP ε w H → WD ε w → WS ε s.heap H locs → lv_has ls 4 lv → W p l e room_1 s m args below meth c H locs C S Q (F0 m pc ls [])
