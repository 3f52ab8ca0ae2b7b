/-! the public calls over a harbour, where they do not throw -/
theorem K_period (l : Launch) (ε : EV) (hst : l.stackTraces = false) {x : Nat} {n : Nat → Int} {G : Nat → Nat → Int} {w : va_W} (hH : HS ε x n G w) (q : Int) (hq : 0 ≤ q ∧ q < n 1) : CT l yX4_period cX4_period 2 (some .int) rm_c_R_period ε [.ref x, .int (iv q)] w (fun v w9 => v = some (.int (iv (G 3 q.toNat))) ∧ w9 = w) NX := by
  have hN := hH.inv.NB
  have hI := hH.inv
  exact (c_R_period l ε w hst x n G hH.rd hN hI.2.1 hI.2.2.1 q ⟨by omega, by omega⟩).imp (fun v w9 h => h.2) (fun E w9 h => absurd hq h.1)
theorem K_areAlike (l : Launch) (ε : EV) (hst : l.stackTraces = false) {x : Nat} {n : Nat → Int} {G : Nat → Nat → Int} {w : va_W} (hH : HS ε x n G w) (q : Int) (r : Int) (hq : 0 ≤ q ∧ q < n 1) (hr : 0 ≤ r ∧ r < n 1) : CT l yX4_areAlike cX4_areAlike 3 (some .boolean) rm_c_R_areAlike ε [.ref x, .int (iv q), .int (iv r)] w (fun v w9 => v = some (.int (iv (bz (ph1B G q r)))) ∧ w9 = w) NX := by
  have hN := hH.inv.NB
  have hI := hH.inv
  exact (c_R_areAlike l ε w hst x n G hH.rd hN hI.2.1 hI.2.2.1 q ⟨by omega, by omega⟩ r ⟨by omega, by omega⟩).imp (fun v w9 h => ⟨h.2.1.trans (congrArg (fun z => some (Value.int (iv z))) (congrArg bz (tb_eq (ph1B_ok G q r)))), h.2.2⟩) (fun E w9 h => absurd ⟨hq, hr⟩ h.1)
theorem K_areAlikeBySeconds (l : Launch) (ε : EV) (hst : l.stackTraces = false) {x : Nat} {n : Nat → Int} {G : Nat → Nat → Int} {w : va_W} (hH : HS ε x n G w) (q : Int) (r : Int) (hq : 0 ≤ q ∧ q < n 1) (hr : 0 ≤ r ∧ r < n 1) : CT l yX4_areAlikeBySeconds cX4_areAlikeBySeconds 3 (some .boolean) rm_c_R_areAlikeBySeconds ε [.ref x, .int (iv q), .int (iv r)] w (fun v w9 => v = some (.int (iv (bz (sc1B G q r)))) ∧ w9 = w) NX := by
  have hN := hH.inv.NB
  have hI := hH.inv
  exact (c_R_areAlikeBySeconds l ε w hst x n G hH.rd hN hI.2.1 hI.2.2.1 q ⟨by omega, by omega⟩ r ⟨by omega, by omega⟩).imp (fun v w9 h => ⟨h.2.1.trans (congrArg (fun z => some (Value.int (iv z))) (congrArg bz (tb_eq (sc1B_ok G q r)))), h.2.2⟩) (fun E w9 h => absurd ⟨hq, hr⟩ h.1)
theorem K_shines (l : Launch) (ε : EV) (hst : l.stackTraces = false) {x : Nat} {n : Nat → Int} {G : Nat → Nat → Int} {w : va_W} (hH : HS ε x n G w) (i : Int) (t : Int) (hi : 0 ≤ i ∧ i < n 2) (ht : 0 ≤ t ∧ t ≤ 100000) : CT l yX4_shines cX4_shines 4 (some .boolean) rm_c_R_shines ε [.ref x, .int (iv i), .int (iv t)] w (fun v w9 => v = some (.int (iv (bz (ON G i t)))) ∧ w9 = w) NX := by
  have hN := hH.inv.NB
  have hI := hH.inv
  exact (c_R_shines l ε w hst x n G hH.rd hN hI.2.1 hI.2.2.1 i ⟨by omega, by omega⟩ t ⟨by omega, by omega⟩).imp (fun v w9 h => h.2) (fun E w9 h => by rcases h with h | h <;> (have h9 := h.1; exfalso; omega))
theorem K_sector (l : Launch) (ε : EV) (hst : l.stackTraces = false) {x : Nat} {n : Nat → Int} {G : Nat → Nat → Int} {w : va_W} (hH : HS ε x n G w) (i : Int) (x9 : Int) (y9 : Int) (hi : 0 ≤ i ∧ i < n 2) (hp : (0 ≤ x9 ∧ x9 ≤ 31) ∧ 0 ≤ y9 ∧ y9 ≤ 31) : CT l yX4_sector cX4_sector 5 (some .int) rm_c_R_sector ε [.ref x, .int (iv i), .int (iv x9), .int (iv y9)] w (fun v w9 => v = some (.int (iv (sectB (x9 - G 4 i.toNat) (y9 - G 5 i.toNat)))) ∧ w9 = w) NX := by
  have hN := hH.inv.NB
  have hI := hH.inv
  exact (c_R_sector l ε w hst x n G hH.rd hN hI.2.1 hI.2.2.1 i ⟨by omega, by omega⟩ x9 y9 ⟨by omega, by omega⟩ ⟨by omega, by omega⟩).imp (fun v w9 h => ⟨h.2.1.trans (congrArg (fun z => some (Value.int (iv z))) (sectB_ok _ _)), h.2.2⟩) (fun E w9 h => by rcases h with h | h <;> (have h9 := h.1; exfalso; omega))
theorem K_isSeen (l : Launch) (ε : EV) (hst : l.stackTraces = false) {x : Nat} {n : Nat → Int} {G : Nat → Nat → Int} {w : va_W} (hH : HS ε x n G w) (i : Int) (x9 : Int) (y9 : Int) (hi : 0 ≤ i ∧ i < n 2) (hp : (0 ≤ x9 ∧ x9 ≤ 31) ∧ 0 ≤ y9 ∧ y9 ≤ 31) : CT l yX4_isSeen cX4_isSeen 5 (some .boolean) rm_c_R_isSeen ε [.ref x, .int (iv i), .int (iv x9), .int (iv y9)] w (fun v w9 => v = some (.int (iv (bz (seeB G i x9 y9)))) ∧ w9 = w) NX := by
  have hN := hH.inv.NB
  have hI := hH.inv
  exact (c_R_isSeen l ε w hst x n G hH.rd hN hI.2.1 hI.2.2.1 i ⟨by omega, by omega⟩ x9 y9 ⟨by omega, by omega⟩ ⟨by omega, by omega⟩).imp (fun v w9 h => ⟨h.2.1.trans (congrArg (fun z => some (Value.int (iv z))) (congrArg bz (seeB_ok G i x9 y9))), h.2.2⟩) (fun E w9 h => by rcases h with h | h <;> (have h9 := h.1; exfalso; omega))
theorem K_common (l : Launch) (ε : EV) (hst : l.stackTraces = false) {x : Nat} {n : Nat → Int} {G : Nat → Nat → Int} {w : va_W} (hH : HS ε x n G w) (i : Int) (j : Int) (hi : 0 ≤ i ∧ i < n 2) (hj : 0 ≤ j ∧ j < n 2) : CT l yX4_common cX4_common 3 (some .int) rm_c_R_common ε [.ref x, .int (iv i), .int (iv j)] w (fun v w9 => v = some (.int (iv (shB G i j))) ∧ w9 = w) NX := by
  have hN := hH.inv.NB
  have hI := hH.inv
  exact (c_R_common l ε w hst x n G hH.rd hN hI.2.1 hI.2.2.1 i ⟨by omega, by omega⟩ j ⟨by omega, by omega⟩).imp (fun v w9 h => ⟨h.2.1.trans (congrArg (fun z => some (Value.int (iv z))) (shB_ok G i j)), h.2.2⟩) (fun E w9 h => absurd ⟨hi, hj⟩ h.1)
theorem K_notices (l : Launch) (ε : EV) (hst : l.stackTraces = false) {x : Nat} {n : Nat → Int} {G : Nat → Nat → Int} {w : va_W} (hH : HS ε x n G w)   : CT l yX4_notices cX4_notices 1 (some .int) rm_c_R_notices ε [.ref x] w (fun v w9 => v = some (.int (iv (n 3))) ∧ w9 = w) NX := by
  have hN := hH.inv.NB
  have hI := hH.inv
  exact (c_R_notices l ε w hst x n G hH.rd hN hI.2.1 hI.2.2.1 ).imp (fun v w9 h => h) (fun E w9 h => h)
theorem K_clashes (l : Launch) (ε : EV) (hst : l.stackTraces = false) {x : Nat} {n : Nat → Int} {G : Nat → Nat → Int} {w : va_W} (hH : HS ε x n G w)   : CT l yX4_clashes cX4_clashes 4 (some .int) rm_c_R_clashes ε [.ref x] w (fun v w9 => v = some (.int (iv (clcB G (n 2).toNat))) ∧ w9 = w) NX := by
  have hN := hH.inv.NB
  have hI := hH.inv
  exact (c_R_clashes l ε w hst x n G hH.rd hN hI.2.1 hI.2.2.1 ).imp (fun v w9 h => ⟨h.1.trans (congrArg (fun z => some (Value.int (iv z))) (clcB_ok G _)), h.2⟩) (fun E w9 h => h)
theorem K_behind (l : Launch) (ε : EV) (hst : l.stackTraces = false) {x : Nat} {n : Nat → Int} {G : Nat → Nat → Int} {w : va_W} (hH : HS ε x n G w) (ch : Int) (hc : 0 ≤ ch ∧ ch < n 4) : CT l yX4_behind cX4_behind 2 (some .int) rm_c_R_behind ε [.ref x, .int (iv ch)] w (fun v w9 => v = some (.int (iv (n 3 - G 12 ch.toNat))) ∧ w9 = w) NX := by
  have hN := hH.inv.NB
  have hI := hH.inv
  exact (c_R_behind l ε w hst x n G hH.rd hN hI.2.1 hI.2.2.1 hI.2.2.2.1 ch ⟨by omega, by omega⟩).imp (fun v w9 h => h.2) (fun E w9 h => absurd hc h.1)
theorem K_shown (l : Launch) (ε : EV) (hst : l.stackTraces = false) {x : Nat} {n : Nat → Int} {G : Nat → Nat → Int} {w : va_W} (hH : HS ε x n G w) (ch : Int) (i : Int) (hc : 0 ≤ ch ∧ ch < n 4) (hi : 0 ≤ i ∧ i < n 2) : CT l yX4_shown cX4_shown 4 (some .int) rm_c_R_shown ε [.ref x, .int (iv ch), .int (iv i)] w (fun v w9 => v = some (.int (iv (G 13 (12 * ch + i).toNat))) ∧ w9 = w) NX := by
  have hN := hH.inv.NB
  have hI := hH.inv
  exact (c_R_shown l ε w hst x n G hH.rd hN hI.2.1 hI.2.2.1 ch ⟨by omega, by omega⟩ i ⟨by omega, by omega⟩).imp (fun v w9 h => h.2) (fun E w9 h => absurd ⟨hc, hi⟩ h.1)
theorem K_taken (l : Launch) (ε : EV) (hst : l.stackTraces = false) {x : Nat} {n : Nat → Int} {G : Nat → Nat → Int} {w : va_W} (hH : HS ε x n G w) (ch : Int) (x9 : Int) (y9 : Int) (i : Int) (fr : Int) (many : Int) (hc : 0 ≤ ch ∧ ch < n 4) (hi : 0 ≤ i ∧ i < n 2) (hp : (0 ≤ x9 ∧ x9 ≤ 31) ∧ 0 ≤ y9 ∧ y9 ≤ 31) (hf : 0 ≤ fr ∧ fr ≤ 1000) (hm : 1 ≤ many ∧ many ≤ 60) : CT l yX4_taken cX4_taken 14 (some .int) rm_c_R_taken ε [.ref x, .int (iv ch), .int (iv x9), .int (iv y9), .int (iv i), .int (iv fr), .int (iv many)] w (fun v w9 => v = some (.int (iv (takB G ch x9 y9 i fr many (n 2).toNat))) ∧ w9 = w) NX := by
  have hN := hH.inv.NB
  have hI := hH.inv
  exact (c_R_taken l ε w hst x n G hH.rd hN hI.2.1 hI.2.2.1 hI.2.2.2.1 ch x9 y9 i fr many ⟨by omega, by omega⟩ ⟨by omega, by omega⟩ ⟨by omega, by omega⟩ ⟨by omega, by omega⟩ ⟨by omega, by omega⟩ ⟨by omega, by omega⟩).imp (fun v w9 h => ⟨h.2.1.trans (congrArg (fun z => some (Value.int (iv z))) (takB_ok G ch x9 y9 i fr many _)), h.2.2⟩) (fun E w9 h => by rcases h with h | h <;> (have h9 := h.1; exfalso; omega))
theorem KX_phase (l : Launch) (ε : EV) (hst : l.stackTraces = false) {x : Nat} {n : Nat → Int} {G : Nat → Nat → Int} {w : va_W} (hH : HS ε x n G w) (t : Int) (rt : rg t)  : CT l yX4_phase cX4_phase 2 (some .int) rm_c_W_phase ε [.ref x, .int (iv t)] w (fun v w9 => ((1 ≤ t ∧ t ≤ 9) ∧ (n 0 < 6)) ∧ v = some (.int (iv (n 0 + 1))) ∧ HS ε x (va_up n 0 (n 0 + 1)) (va_up G 0 (va_up (G 0) (n 0).toNat t)) w9) (fun E w9 => ((¬ (1 ≤ t ∧ t ≤ 9)) ∧ E = nIAE ∧ w9 = w) ∨ (((1 ≤ t ∧ t ≤ 9) ∧ n 0 = 6) ∧ E = nISE ∧ w9 = w)) := by
  obtain ⟨X, L, f, ρ, rfl, hR, hI⟩ := hH
  have hN := hI.NB
  have hI2 : ((1 ≤ t ∧ t ≤ 9) ∧ (n 0 < 6)) → INV (va_up n 0 (n 0 + 1)) (va_up G 0 (va_up (G 0) (n 0).toNat t)) := by
    rintro ⟨ht, h6⟩
    exact hI.phase h6 ht
  refine (c_W_phase l ε X L f hst ρ x n G hR hI.NB hI.1 t rt).imp (fun v w9 h => ?_) (fun E w9 h => ?_)
  · obtain ⟨hc9, h1, L2, f2, ρ2, e, h9⟩ := h
    have hk : (1 ≤ t ∧ t ≤ 9) ∧ (n 0 < 6) := by omega
    exact ⟨hk, h1, X, L2, f2, ρ2, e, h9, hI2 hk⟩
  · rcases h with h | h
    · exact Or.inl ⟨by have h9 := h.1; omega, h.2⟩
    · exact Or.inr (⟨by have h9 := h.1; omega, h.2⟩)
theorem K_phase (l : Launch) (ε : EV) (hst : l.stackTraces = false) {x : Nat} {n : Nat → Int} {G : Nat → Nat → Int} {w : va_W} (hH : HS ε x n G w) (t : Int) (ht : 1 ≤ t ∧ t ≤ 9) (h6 : n 0 < 6) : CT l yX4_phase cX4_phase 2 (some .int) rm_c_W_phase ε [.ref x, .int (iv t)] w (fun v w9 => v = some (.int (iv (n 0 + 1))) ∧ HS ε x (va_up n 0 (n 0 + 1)) (va_up G 0 (va_up (G 0) (n 0).toNat t)) w9) NX := by
  have hN := hH.inv.NB
  exact (KX_phase l ε hst hH t ⟨by omega, by omega⟩ ).imp (fun v w9 h => h.2) (fun E w9 h => by rcases h with h | h <;> (have h9 := h.1; exfalso; omega))
theorem KX_pattern (l : Launch) (ε : EV) (hst : l.stackTraces = false) {x : Nat} {n : Nat → Int} {G : Nat → Nat → Int} {w : va_W} (hH : HS ε x n G w)    : CT l yX4_pattern cX4_pattern 1 (some .int) rm_c_W_pattern ε [.ref x] w (fun v w9 => ((n 0 = 2 ∨ n 0 = 4 ∨ n 0 = 6) ∧ (n 1 < 20)) ∧ v = some (.int (iv (n 1))) ∧ HS ε x (va_up (va_up n 0 0) 1 (n 1 + 1)) (GP n G) w9) (fun E w9 => ((¬ ((n 0 = 2 ∨ n 0 = 4 ∨ n 0 = 6) ∧ n 1 < 20)) ∧ E = nISE ∧ w9 = w)) := by
  obtain ⟨X, L, f, ρ, rfl, hR, hI⟩ := hH
  have hN := hI.NB
  have hI2 : ((n 0 = 2 ∨ n 0 = 4 ∨ n 0 = 6) ∧ (n 1 < 20)) → INV (va_up (va_up n 0 0) 1 (n 1 + 1)) (GP n G) := by
    rintro ⟨h0, h20⟩
    exact hI.pattern h0 h20
  refine (c_W_pattern l ε X L f hst ρ x n G hR hI.NB hI.1 hI.2.1 (hI.2.2.2.2.2.1 (n 1) (Int.le_refl _))).imp (fun v w9 h => ?_) (fun E w9 h => ?_)
  · obtain ⟨hc9, h1, L2, f2, ρ2, e, h9⟩ := h
    have hk : (n 0 = 2 ∨ n 0 = 4 ∨ n 0 = 6) ∧ (n 1 < 20) := by omega
    exact ⟨hk, h1, X, L2, f2, ρ2, e, h9, hI2 hk⟩
  · exact ⟨by have h9 := h.1; omega, h.2⟩
theorem K_pattern (l : Launch) (ε : EV) (hst : l.stackTraces = false) {x : Nat} {n : Nat → Int} {G : Nat → Nat → Int} {w : va_W} (hH : HS ε x n G w)  (h0 : n 0 = 2 ∨ n 0 = 4 ∨ n 0 = 6) (h20 : n 1 < 20) : CT l yX4_pattern cX4_pattern 1 (some .int) rm_c_W_pattern ε [.ref x] w (fun v w9 => v = some (.int (iv (n 1))) ∧ HS ε x (va_up (va_up n 0 0) 1 (n 1 + 1)) (GP n G) w9) NX := by
  have hN := hH.inv.NB
  exact (KX_pattern l ε hst hH   ).imp (fun v w9 h => h.2) (fun E w9 h => by have h9 := h.1; exfalso; omega)
theorem KX_lamp (l : Launch) (ε : EV) (hst : l.stackTraces = false) {x : Nat} {n : Nat → Int} {G : Nat → Nat → Int} {w : va_W} (hH : HS ε x n G w) (x9 : Int) (y9 : Int) (q : Int) (rc : Int) (se : Int) (rx9 : rg x9) (ry9 : rg y9) (rq : rg q) (rrc : rg rc) (rse : rg se) (h3 : n 3 < 512) : CT l yX4_lamp cX4_lamp 7 (some .int) rm_c_W_lamp ε [.ref x, .int (iv x9), .int (iv y9), .int (iv q), .int (iv rc), .int (iv se)] w (fun v w9 => ((0 ≤ q ∧ q < n 1) ∧ ((0 ≤ x9 ∧ x9 ≤ 31) ∧ 0 ≤ y9 ∧ y9 ≤ 31) ∧ (1 ≤ rc ∧ rc ≤ 40) ∧ (1 ≤ se ∧ se ≤ 255) ∧ (n 2 < 12)) ∧ v = some (.int (iv (n 2))) ∧ HS ε x (va_up (va_up n 2 (n 2 + 1)) 3 (n 3 + 1)) (va_up (GL n G x9 y9 q rc se) 11 (va_up ((GL n G x9 y9 q rc se) 11) ((n 3).toNat) (NV (GL n G x9 y9 q rc se) (n 2)))) w9) (fun E w9 => ((¬ (0 ≤ q ∧ q < n 1)) ∧ E = nIOE ∧ w9 = w) ∨ (((0 ≤ q ∧ q < n 1) ∧ ¬ (((0 ≤ x9 ∧ x9 ≤ 31) ∧ 0 ≤ y9 ∧ y9 ≤ 31) ∧ (1 ≤ rc ∧ rc ≤ 40) ∧ 1 ≤ se ∧ se ≤ 255)) ∧ E = nIAE ∧ w9 = w) ∨ ((((0 ≤ q ∧ q < n 1) ∧ (((0 ≤ x9 ∧ x9 ≤ 31) ∧ 0 ≤ y9 ∧ y9 ≤ 31) ∧ (1 ≤ rc ∧ rc ≤ 40) ∧ 1 ≤ se ∧ se ≤ 255)) ∧ n 2 = 12) ∧ E = nISE ∧ w9 = w)) := by
  obtain ⟨X, L, f, ρ, rfl, hR, hI⟩ := hH
  have hN := hI.NB
  have hI2 : ((0 ≤ q ∧ q < n 1) ∧ ((0 ≤ x9 ∧ x9 ≤ 31) ∧ 0 ≤ y9 ∧ y9 ≤ 31) ∧ (1 ≤ rc ∧ rc ≤ 40) ∧ (1 ≤ se ∧ se ≤ 255) ∧ (n 2 < 12)) → INV (va_up (va_up n 2 (n 2 + 1)) 3 (n 3 + 1)) (va_up (GL n G x9 y9 q rc se) 11 (va_up ((GL n G x9 y9 q rc se) 11) ((n 3).toNat) (NV (GL n G x9 y9 q rc se) (n 2)))) := by
    rintro ⟨hq, hp, hrc, hse, h12⟩
    exact INV.tell (INV.lamp hI h12 hp hq hrc hse) (i := n 2) ⟨by omega, Int.lt_succ (n 2)⟩ (show n 3 < 512 by omega)
  refine (c_W_lamp l ε X L f hst ρ x n G hR hI.NB h3 (hI.2.2.2.2.2.2.1 (n 2) (Int.le_refl _)).1 (hI.2.2.2.2.2.2.1 (n 2) (Int.le_refl _)).2 x9 y9 q rc se rx9 ry9 rq rrc rse).imp (fun v w9 h => ?_) (fun E w9 h => ?_)
  · obtain ⟨hc9, h1, L2, f2, ρ2, e, h9⟩ := h
    have hk : (0 ≤ q ∧ q < n 1) ∧ ((0 ≤ x9 ∧ x9 ≤ 31) ∧ 0 ≤ y9 ∧ y9 ≤ 31) ∧ (1 ≤ rc ∧ rc ≤ 40) ∧ (1 ≤ se ∧ se ≤ 255) ∧ (n 2 < 12) := by omega
    exact ⟨hk, h1, X, L2, f2, ρ2, e, h9, hI2 hk⟩
  · rcases h with h | h | h
    · exact Or.inl ⟨by have h9 := h.1; omega, h.2⟩
    · exact Or.inr (Or.inl ⟨by have h9 := h.1; omega, h.2⟩)
    · exact Or.inr (Or.inr (⟨by have h9 := h.1; omega, h.2⟩))
theorem K_lamp (l : Launch) (ε : EV) (hst : l.stackTraces = false) {x : Nat} {n : Nat → Int} {G : Nat → Nat → Int} {w : va_W} (hH : HS ε x n G w) (x9 : Int) (y9 : Int) (q : Int) (rc : Int) (se : Int) (hq : 0 ≤ q ∧ q < n 1) (hp : (0 ≤ x9 ∧ x9 ≤ 31) ∧ 0 ≤ y9 ∧ y9 ≤ 31) (hrc : 1 ≤ rc ∧ rc ≤ 40) (hse : 1 ≤ se ∧ se ≤ 255) (h12 : n 2 < 12) (h3 : n 3 < 512) : CT l yX4_lamp cX4_lamp 7 (some .int) rm_c_W_lamp ε [.ref x, .int (iv x9), .int (iv y9), .int (iv q), .int (iv rc), .int (iv se)] w (fun v w9 => v = some (.int (iv (n 2))) ∧ HS ε x (va_up (va_up n 2 (n 2 + 1)) 3 (n 3 + 1)) (va_up (GL n G x9 y9 q rc se) 11 (va_up ((GL n G x9 y9 q rc se) 11) ((n 3).toNat) (NV (GL n G x9 y9 q rc se) (n 2)))) w9) NX := by
  have hN := hH.inv.NB
  exact (KX_lamp l ε hst hH x9 y9 q rc se ⟨by omega, by omega⟩ ⟨by omega, by omega⟩ ⟨by omega, by omega⟩ ⟨by omega, by omega⟩ ⟨by omega, by omega⟩ h3).imp (fun v w9 h => h.2) (fun E w9 h => by rcases h with h | h | h <;> (have h9 := h.1; exfalso; omega))
theorem KX_change (l : Launch) (ε : EV) (hst : l.stackTraces = false) {x : Nat} {n : Nat → Int} {G : Nat → Nat → Int} {w : va_W} (hH : HS ε x n G w) (i : Int) (q : Int) (bg : Int) (ri : rg i) (rq : rg q) (rbg : rg bg) (h3 : n 3 < 512) : CT l yX4_change cX4_change 5 (some .int) rm_c_W_change ε [.ref x, .int (iv i), .int (iv q), .int (iv bg)] w (fun v w9 => ((0 ≤ i ∧ i < n 2) ∧ (0 ≤ q ∧ q < n 1) ∧ (0 ≤ bg ∧ bg ≤ 59)) ∧ v = some (.int (iv (n 3))) ∧ HS ε x (va_up n 3 (n 3 + 1)) (va_up (va_up (va_up G 6 (va_up (G 6) i.toNat q)) 7 (va_up ((va_up G 6 (va_up (G 6) i.toNat q)) 7) i.toNat bg)) 11 (va_up ((va_up (va_up G 6 (va_up (G 6) i.toNat q)) 7 (va_up ((va_up G 6 (va_up (G 6) i.toNat q)) 7) i.toNat bg)) 11) ((n 3).toNat) (NV (va_up (va_up G 6 (va_up (G 6) i.toNat q)) 7 (va_up ((va_up G 6 (va_up (G 6) i.toNat q)) 7) i.toNat bg)) i))) w9) (fun E w9 => ((¬ ((0 ≤ i ∧ i < n 2) ∧ (0 ≤ q ∧ q < n 1))) ∧ E = nIOE ∧ w9 = w) ∨ ((((0 ≤ i ∧ i < n 2) ∧ (0 ≤ q ∧ q < n 1)) ∧ ¬ (0 ≤ bg ∧ bg ≤ 59)) ∧ E = nIAE ∧ w9 = w)) := by
  obtain ⟨X, L, f, ρ, rfl, hR, hI⟩ := hH
  have hN := hI.NB
  have hI2 : ((0 ≤ i ∧ i < n 2) ∧ (0 ≤ q ∧ q < n 1) ∧ (0 ≤ bg ∧ bg ≤ 59)) → INV (va_up n 3 (n 3 + 1)) (va_up (va_up (va_up G 6 (va_up (G 6) i.toNat q)) 7 (va_up ((va_up G 6 (va_up (G 6) i.toNat q)) 7) i.toNat bg)) 11 (va_up ((va_up (va_up G 6 (va_up (G 6) i.toNat q)) 7 (va_up ((va_up G 6 (va_up (G 6) i.toNat q)) 7) i.toNat bg)) 11) ((n 3).toNat) (NV (va_up (va_up G 6 (va_up (G 6) i.toNat q)) 7 (va_up ((va_up G 6 (va_up (G 6) i.toNat q)) 7) i.toNat bg)) i))) := by
    rintro ⟨hi, hq, hb⟩
    exact INV.tell (INV.change hI hi hq hb) (i := i) hi (show n 3 < 512 by omega)
  refine (c_W_change l ε X L f hst ρ x n G hR hI.NB hI.2.2.1 h3 i q bg ri rq rbg).imp (fun v w9 h => ?_) (fun E w9 h => ?_)
  · obtain ⟨hc9, h1, L2, f2, ρ2, e, h9⟩ := h
    have hk : (0 ≤ i ∧ i < n 2) ∧ (0 ≤ q ∧ q < n 1) ∧ (0 ≤ bg ∧ bg ≤ 59) := by omega
    exact ⟨hk, h1, X, L2, f2, ρ2, e, h9, hI2 hk⟩
  · rcases h with h | h
    · exact Or.inl ⟨by have h9 := h.1; omega, h.2⟩
    · exact Or.inr (⟨by have h9 := h.1; omega, h.2⟩)
theorem K_change (l : Launch) (ε : EV) (hst : l.stackTraces = false) {x : Nat} {n : Nat → Int} {G : Nat → Nat → Int} {w : va_W} (hH : HS ε x n G w) (i : Int) (q : Int) (bg : Int) (hi : 0 ≤ i ∧ i < n 2) (hq : 0 ≤ q ∧ q < n 1) (hb : 0 ≤ bg ∧ bg ≤ 59) (h3 : n 3 < 512) : CT l yX4_change cX4_change 5 (some .int) rm_c_W_change ε [.ref x, .int (iv i), .int (iv q), .int (iv bg)] w (fun v w9 => v = some (.int (iv (n 3))) ∧ HS ε x (va_up n 3 (n 3 + 1)) (va_up (va_up (va_up G 6 (va_up (G 6) i.toNat q)) 7 (va_up ((va_up G 6 (va_up (G 6) i.toNat q)) 7) i.toNat bg)) 11 (va_up ((va_up (va_up G 6 (va_up (G 6) i.toNat q)) 7 (va_up ((va_up G 6 (va_up (G 6) i.toNat q)) 7) i.toNat bg)) 11) ((n 3).toNat) (NV (va_up (va_up G 6 (va_up (G 6) i.toNat q)) 7 (va_up ((va_up G 6 (va_up (G 6) i.toNat q)) 7) i.toNat bg)) i))) w9) NX := by
  have hN := hH.inv.NB
  exact (KX_change l ε hst hH i q bg ⟨by omega, by omega⟩ ⟨by omega, by omega⟩ ⟨by omega, by omega⟩ h3).imp (fun v w9 h => h.2) (fun E w9 h => by rcases h with h | h <;> (have h9 := h.1; exfalso; omega))
theorem KX_fail (l : Launch) (ε : EV) (hst : l.stackTraces = false) {x : Nat} {n : Nat → Int} {G : Nat → Nat → Int} {w : va_W} (hH : HS ε x n G w) (i : Int) (fb : Int) (ri : rg i) (rfb : rg fb) (hfb : fb = 0 ∨ fb = 1) (h3 : n 3 < 512) : CT l yX4_fail cX4_fail 4 (some .int) rm_c_W_fail ε [.ref x, .int (iv i), .int (iv fb)] w (fun v w9 => ((0 ≤ i ∧ i < n 2) ∧ (G 10 i.toNat ≠ fb)) ∧ v = some (.int (iv (n 3))) ∧ HS ε x (va_up n 3 (n 3 + 1)) (va_up (va_up G 10 (va_up (G 10) i.toNat fb)) 11 (va_up ((va_up G 10 (va_up (G 10) i.toNat fb)) 11) ((n 3).toNat) (NV (va_up G 10 (va_up (G 10) i.toNat fb)) i))) w9) (fun E w9 => ((¬ (0 ≤ i ∧ i < n 2)) ∧ E = nIOE ∧ w9 = w) ∨ (((0 ≤ i ∧ i < n 2) ∧ G 10 i.toNat = fb) ∧ E = nISE ∧ w9 = w)) := by
  obtain ⟨X, L, f, ρ, rfl, hR, hI⟩ := hH
  have hN := hI.NB
  have hI2 : ((0 ≤ i ∧ i < n 2) ∧ (G 10 i.toNat ≠ fb)) → INV (va_up n 3 (n 3 + 1)) (va_up (va_up G 10 (va_up (G 10) i.toNat fb)) 11 (va_up ((va_up G 10 (va_up (G 10) i.toNat fb)) 11) ((n 3).toNat) (NV (va_up G 10 (va_up (G 10) i.toNat fb)) i))) := by
    rintro ⟨hi, hne⟩
    exact INV.tell (INV.fail hI hi hfb) (i := i) hi (show n 3 < 512 by omega)
  refine (c_W_fail l ε X L f hst ρ x n G hR hI.NB hI.2.2.1 h3 i fb ri hfb).imp (fun v w9 h => ?_) (fun E w9 h => ?_)
  · obtain ⟨hc9, h1, L2, f2, ρ2, e, h9⟩ := h
    have hk : (0 ≤ i ∧ i < n 2) ∧ (G 10 i.toNat ≠ fb) := by omega
    exact ⟨hk, h1, X, L2, f2, ρ2, e, h9, hI2 hk⟩
  · rcases h with h | h
    · exact Or.inl ⟨by have h9 := h.1; omega, h.2⟩
    · exact Or.inr (⟨by have h9 := h.1; omega, h.2⟩)
theorem K_fail (l : Launch) (ε : EV) (hst : l.stackTraces = false) {x : Nat} {n : Nat → Int} {G : Nat → Nat → Int} {w : va_W} (hH : HS ε x n G w) (i : Int) (fb : Int) (hi : 0 ≤ i ∧ i < n 2) (hfb : fb = 0 ∨ fb = 1) (hne : G 10 i.toNat ≠ fb) (h3 : n 3 < 512) : CT l yX4_fail cX4_fail 4 (some .int) rm_c_W_fail ε [.ref x, .int (iv i), .int (iv fb)] w (fun v w9 => v = some (.int (iv (n 3))) ∧ HS ε x (va_up n 3 (n 3 + 1)) (va_up (va_up G 10 (va_up (G 10) i.toNat fb)) 11 (va_up ((va_up G 10 (va_up (G 10) i.toNat fb)) 11) ((n 3).toNat) (NV (va_up G 10 (va_up (G 10) i.toNat fb)) i))) w9) NX := by
  have hN := hH.inv.NB
  exact (KX_fail l ε hst hH i fb ⟨by omega, by omega⟩ ⟨by omega, by omega⟩ hfb h3).imp (fun v w9 h => h.2) (fun E w9 h => by rcases h with h | h <;> (have h9 := h.1; exfalso; omega))
theorem KX_print (l : Launch) (ε : EV) (hst : l.stackTraces = false) {x : Nat} {n : Nat → Int} {G : Nat → Nat → Int} {w : va_W} (hH : HS ε x n G w)    : CT l yX4_print cX4_print 2 (some .int) rm_c_W_print ε [.ref x] w (fun v w9 => ((n 4 < 10)) ∧ v = some (.int (iv (n 4))) ∧ HS ε x (va_up n 4 (n 4 + 1)) (PUT (n 4) (SH G (n 4) 12) (mn (n 3) (n 3 - G 12 (n 4).toNat)).toNat) w9) (fun E w9 => ((n 4 = 10) ∧ E = nISE ∧ w9 = w)) := by
  obtain ⟨X, L, f, ρ, rfl, hR, hI⟩ := hH
  have hN := hI.NB
  have hI2 : ((n 4 < 10)) → INV (va_up n 4 (n 4 + 1)) (PUT (n 4) (SH G (n 4) 12) (mn (n 3) (n 3 - G 12 (n 4).toNat)).toNat) := by
    rintro h10
    have hz : G 12 (n 4).toNat = 0 := hI.2.2.2.2.2.2.2 (n 4) (Int.le_refl _)
    exact INV.puts (INV.sh hI h10) (ch := n 4) ⟨by omega, Int.lt_succ (n 4)⟩ _ (by show G 12 (n 4).toNat + ((mn (n 3) (n 3 - G 12 (n 4).toNat)).toNat : Int) ≤ n 3; rw [hz]; unfold mn; split <;> omega)
  refine (c_W_print l ε X L f hst ρ x n G hR hI.NB hI.2.2.2.2.1 (hI.2.2.2.2.2.2.2 (n 4) (Int.le_refl _))).imp (fun v w9 h => ?_) (fun E w9 h => ?_)
  · obtain ⟨hc9, h1, L2, f2, ρ2, e, h9⟩ := h
    have hk : (n 4 < 10) := by omega
    exact ⟨hk, h1, X, L2, f2, ρ2, e, h9, hI2 hk⟩
  · exact ⟨by have h9 := h.1; omega, h.2⟩
theorem K_print (l : Launch) (ε : EV) (hst : l.stackTraces = false) {x : Nat} {n : Nat → Int} {G : Nat → Nat → Int} {w : va_W} (hH : HS ε x n G w)  (h10 : n 4 < 10) : CT l yX4_print cX4_print 2 (some .int) rm_c_W_print ε [.ref x] w (fun v w9 => v = some (.int (iv (n 4))) ∧ HS ε x (va_up n 4 (n 4 + 1)) (PUT (n 4) (SH G (n 4) 12) (mn (n 3) (n 3 - G 12 (n 4).toNat)).toNat) w9) NX := by
  have hN := hH.inv.NB
  exact (KX_print l ε hst hH   ).imp (fun v w9 h => h.2) (fun E w9 h => by have h9 := h.1; exfalso; omega)
theorem KX_correct (l : Launch) (ε : EV) (hst : l.stackTraces = false) {x : Nat} {n : Nat → Int} {G : Nat → Nat → Int} {w : va_W} (hH : HS ε x n G w) (ch : Int) (many : Int) (rch : rg ch) (rmany : rg many)  : CT l yX4_correct cX4_correct 5 (some .int) rm_c_W_correct ε [.ref x, .int (iv ch), .int (iv many)] w (fun v w9 => ((0 ≤ ch ∧ ch < n 4) ∧ (1 ≤ many ∧ many ≤ 100)) ∧ v = some (.int (iv (mn many (n 3 - G 12 ch.toNat)))) ∧ HS ε x (n) (PUT ch G (mn many (n 3 - G 12 ch.toNat)).toNat) w9) (fun E w9 => ((¬ (0 ≤ ch ∧ ch < n 4)) ∧ E = nIOE ∧ w9 = w) ∨ (((0 ≤ ch ∧ ch < n 4) ∧ ¬ (1 ≤ many ∧ many ≤ 100)) ∧ E = nIAE ∧ w9 = w)) := by
  obtain ⟨X, L, f, ρ, rfl, hR, hI⟩ := hH
  have hN := hI.NB
  have hI2 : ((0 ≤ ch ∧ ch < n 4) ∧ (1 ≤ many ∧ many ≤ 100)) → INV (n) (PUT ch G (mn many (n 3 - G 12 ch.toNat)).toNat) := by
    rintro ⟨hc, hm⟩
    have hct := (hI.2.2.2.1.2 ch hc.1 hc.2).1
    exact INV.puts hI hc _ (by show G 12 ch.toNat + ((mn many (n 3 - G 12 ch.toNat)).toNat : Int) ≤ n 3; unfold mn; split <;> omega)
  refine (c_W_correct l ε X L f hst ρ x n G hR hI.NB hI.2.2.2.1 hI.2.2.2.2.1 ch many rch rmany).imp (fun v w9 h => ?_) (fun E w9 h => ?_)
  · obtain ⟨hc9, h1, L2, f2, ρ2, e, h9⟩ := h
    have hk : (0 ≤ ch ∧ ch < n 4) ∧ (1 ≤ many ∧ many ≤ 100) := by omega
    exact ⟨hk, h1, X, L2, f2, ρ2, e, h9, hI2 hk⟩
  · rcases h with h | h
    · exact Or.inl ⟨by have h9 := h.1; omega, h.2⟩
    · exact Or.inr (⟨by have h9 := h.1; omega, h.2⟩)
theorem K_correct (l : Launch) (ε : EV) (hst : l.stackTraces = false) {x : Nat} {n : Nat → Int} {G : Nat → Nat → Int} {w : va_W} (hH : HS ε x n G w) (ch : Int) (many : Int) (hc : 0 ≤ ch ∧ ch < n 4) (hm : 1 ≤ many ∧ many ≤ 100) : CT l yX4_correct cX4_correct 5 (some .int) rm_c_W_correct ε [.ref x, .int (iv ch), .int (iv many)] w (fun v w9 => v = some (.int (iv (mn many (n 3 - G 12 ch.toNat)))) ∧ HS ε x (n) (PUT ch G (mn many (n 3 - G 12 ch.toNat)).toNat) w9) NX := by
  have hN := hH.inv.NB
  exact (KX_correct l ε hst hH ch many ⟨by omega, by omega⟩ ⟨by omega, by omega⟩ ).imp (fun v w9 h => h.2) (fun E w9 h => by rcases h with h | h <;> (have h9 := h.1; exfalso; omega))
