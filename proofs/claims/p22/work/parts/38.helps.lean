/-! the class's lists as its methods read them; what is still to be compared with the reference -/
abbrev NB (n : Nat → Int) : Prop := ((0 ≤ n 1 ∧ n 1 ≤ 20) ∧ 0 ≤ n 2 ∧ n 2 ≤ 12) ∧ (0 ≤ n 3 ∧ n 3 ≤ 512) ∧ 0 ≤ n 4 ∧ n 4 ≤ 10
theorem c_A_getL (l : Launch) (ε : EV) (ws : va_W) {r re : Int} {al : Nat} {cnt : Int} {el : Int → Nat} (hl : LISTR (IN ws) ε r re al cnt el) (i : Int) (hi : 0 ≤ i ∧ i < cnt) : CT l yJx4a65c_get_915e3 cJx4a65c_get_915e3 2 (some (.object "java/lang/Object")) rm_c_A_get ε [.ref al, .int (iv i)] (ws) (fun v w => v = some (.ref (el i)) ∧ w = ws) NX := by
  obtain ⟨md, ed, h1, h2⟩ := hl.own
  obtain ⟨cap, g, h3, h4, h5⟩ := h2 (by omega)
  exact c_A_get l ε ws al ed md cnt cap g (el i) h1 h3 i hi h4 (h5 i hi.1 hi.2)
theorem c_A_sizeL (l : Launch) (ε : EV) (ws : va_W) {r re : Int} {al : Nat} {cnt : Int} {el : Int → Nat} (hl : LISTR (IN ws) ε r re al cnt el) : CT l yJx4a65c_size_8abf5 cJx4a65c_size_8abf5 1 (some .int) rm_c_A_size ε [.ref al] (ws) (fun v w => v = some (.int (iv cnt)) ∧ w = ws) NX := by
  obtain ⟨md, ed, h1, h2⟩ := hl.own
  exact c_A_size l ε ws al ed md cnt h1
/-- the phases of a pattern of the reference, as a row -/
def DG (G : Nat → Nat → Int) (q : Int) : Nat → Int := fun k => ph G q k
noncomputable def PH1 (G : Nat → Nat → Int) (q q2 : Int) : Prop := PHS (DG G q) (DG G q2) (CYC (DG G q) (cq G q)) (CYC (DG G q2) (cq G q2))
def SC1 (G : Nat → Nat → Int) (q q2 : Int) : Prop := SECS (LQ G q) (LQ G q2) (G 3 q.toNat) (G 3 q2.toNat)
abbrev VG (G : Nat → Nat → Int) (i : Int) : Int → Int → Prop := VIS (G 4 i.toNat) (G 5 i.toNat) (G 8 i.toNat) (G 9 i.toNat)
noncomputable def SH1 (G : Nat → Nat → Int) (i j : Int) : Int := SHARE (VG G i) (VG G j)
def SE1 (G : Nat → Nat → Int) (i x y : Int) : Prop := ((0 ≤ y ∧ y < 32) ∧ 0 ≤ x ∧ x < 32) ∧ VG G i y x
/-- what is seen of the lamp i in many seconds -/
def LK1 (G : Nat → Nat → Int) (i fr : Int) (u : Int) : Prop := ON G i (fr + u) = true
theorem REPS_congr {D D2 : Nat → Int} {c few : Int} (h0 : 0 ≤ few) (h : ∀ k : Int, 0 ≤ k → k < c → D k.toNat = D2 k.toNat) : REPS D c few ↔ REPS D2 c few := by
  have h9 : ∀ {D D2 : Nat → Int}, (∀ k : Int, 0 ≤ k → k < c → D k.toNat = D2 k.toNat) → REPS D c few → REPS D2 c few := fun h q i h1 h2 => by
    rw [← h i (by omega) h2, ← h (i - few) (by omega) (by omega)]
    exact q i h1 h2
  exact ⟨h9 h, h9 (fun k a b => (h k a b).symm)⟩
theorem cycF_congr {D D2 : Nat → Int} {c : Int} (h : ∀ k : Int, 0 ≤ k → k < c → D k.toNat = D2 k.toNat) : ∀ (k : Nat) (few : Int), 0 ≤ few → cycF D c k few = cycF D2 c k few := by
  intro k
  induction k with
  | zero => intro few _; rfl
  | succ k ih =>
    intro few h0
    unfold cycF
    rw [ih (few + 2) (by omega), show CYK D c few = CYK D2 c few from propext (by unfold CYK; rw [REPS_congr h0 h])]
theorem CYC_congr {D D2 : Nat → Int} {c : Int} (h : ∀ k : Int, 0 ≤ k → k < c → D k.toNat = D2 k.toNat) : CYC D c = CYC D2 c := cycF_congr h 3 2 (by omega)
theorem TURN_congr {D D' D2 D2' : Nat → Int} {cy t : Int} (ht : 0 ≤ t ∧ t < cy) (h : ∀ k : Int, 0 ≤ k → k < cy → D k.toNat = D' k.toNat) (h2 : ∀ k : Int, 0 ≤ k → k < cy → D2 k.toNat = D2' k.toNat) : TURN D D2 cy t ↔ TURN D' D2' cy t := by
  have h9 : ∀ {D D' D2 D2' : Nat → Int}, (∀ k : Int, 0 ≤ k → k < cy → D k.toNat = D' k.toNat) → (∀ k : Int, 0 ≤ k → k < cy → D2 k.toNat = D2' k.toNat) → TURN D D2 cy t → TURN D' D2' cy t := fun h h2 q i a b => by
    have z := tn_bd ⟨a, b⟩ ht
    dsimp only
    rw [← h _ z.1 z.2, ← h2 i a b]
    exact q i a b
  exact ⟨h9 h h2, h9 (fun k a b => (h k a b).symm) (fun k a b => (h2 k a b).symm)⟩
theorem EXb_congr {P Q : Int → Prop} {t : Int} (h : ∀ u : Int, 0 ≤ u → u < t → (P u ↔ Q u)) : EXb P t ↔ EXb Q t :=
  ⟨fun ⟨u, a, b, c⟩ => ⟨u, a, b, (h u a b).mp c⟩, fun ⟨u, a, b, c⟩ => ⟨u, a, b, (h u a b).mpr c⟩⟩
theorem PHS_congr {D D' D2 D2' : Nat → Int} {c c2 : Nat} (h : ∀ k : Int, 0 ≤ k → k < c → D k.toNat = D' k.toNat) (h2 : ∀ k : Int, 0 ≤ k → k < c2 → D2 k.toNat = D2' k.toNat) : PHS D D2 (CYC D c) (CYC D2 c2) ↔ PHS D' D2' (CYC D' c) (CYC D2' c2) := by
  rw [← CYC_congr h, ← CYC_congr h2]
  have b1 := CYC_bd D c
  have b2 := CYC_bd D2 c2
  unfold PHS
  refine and_congr_right (fun e => ?_)
  refine EXb_congr (fun u a b => and_congr_right (fun _ => ?_))
  exact TURN_congr ⟨a, b⟩ (fun k x y => h k x (by omega)) (fun k x y => h2 k x (by omega))
theorem PHS_congrE {D D' D2 D2' : Nat → Int} {c c2 : Int} (h : ∀ k : Int, 0 ≤ k → k < c → D k.toNat = D' k.toNat) (h2 : ∀ k : Int, 0 ≤ k → k < c2 → D2 k.toNat = D2' k.toNat) : PHS D D2 c c2 ↔ PHS D' D2' c c2 := by
  unfold PHS
  refine and_congr_right (fun e => ?_)
  refine EXb_congr (fun u a b => and_congr_right (fun _ => ?_))
  exact TURN_congr ⟨a, b⟩ h (fun k x y => h2 k x (by omega))
theorem PATR.use2 {ws : va_W} {ε : EV} {G : Nat → Nat → Int} {q : Int} {a : Nat} (h : PATR (IN ws) ε G q a) (hq : PQ G q) : ∃ (p9 : Nat) (lg cy : Int) (D E : Nat → Int), (In ws a (oPa (G 3 q.toNat) lg p9) ∧ In ws p9 (eI ε cy.toNat E) ∧ PV (DP D) (cq G q) (G 3 q.toNat) ∧ BITS D (cq G q) (G 3 q.toNat) lg ∧ (∀ k, rg (E k)) ∧ lt (DP D) (cq G q) (G 3 q.toNat) = LQ G q) ∧ (∀ k : Int, 0 ≤ k → k < cq G q → D k.toNat = DG G q k.toNat) ∧ cy = CYC D (cq G q) ∧ ∀ k : Int, 0 ≤ k → k < cy → E k.toNat = D k.toNat := by
  obtain ⟨p9, lg, cy, D, E, h1, h2, h3, h4, h5, h6, h7, h8⟩ := h
  refine ⟨p9, lg, cy, D, E, ⟨h1, h2, PV.congr h3 hq, h5, h8, ?_⟩, fun k a b => ?_, h6, h7⟩
  · funext t
    exact litF_congr h3 (cq G q) 0 _ (by omega) (by omega)
  · rw [h3 k a b]
    show ph G q k = ph G q (k.toNat : Int)
    rw [← nt a]
/-! the questions of two patterns, told by the reference's numbers -/
theorem c_P_light (l : Launch) (ε : EV) (ws : va_W) {G : Nat → Nat → Int} {q : Int} {a : Nat} (h : PATR (IN ws) ε G q a) (hq : PQ G q) (t : Int) (ht : 0 ≤ t ∧ t < 1000000) : CT l yX3_isLight cX3_isLight 2 (some .boolean) rm_c_P_isLight ε [.ref a, .int (iv t)] (ws) (fun v w => v = some (.int (iv (bz (LQ G q t)))) ∧ w = ws) NX := by
  obtain ⟨p9, lg, cy, D, E, ⟨h1, h2, h3, h4, h5, h6⟩, h7, h8⟩ := h.use2 hq
  rw [← h6]
  exact c_P_isLight l ε ws a p9 _ lg D _ h1 h3 h4 t ht
theorem c_P_phases (l : Launch) (ε : EV) (ws : va_W) {G : Nat → Nat → Int} {q q2 : Int} {a a2 : Nat} (h : PATR (IN ws) ε G q a) (hq : PQ G q) (k : PATR (IN ws) ε G q2 a2) (kq : PQ G q2) : CT l yX3_hasPhasesOf cX3_hasPhasesOf 3 (some .boolean) rm_c_P_hasPhasesOf ε [.ref a, .ref a2] (ws) (fun v w => v = some (.int (iv (bz (tb (PH1 G q q2))))) ∧ w = ws) NX := by
  obtain ⟨p9, lg, cy, D, E, ⟨h1, h2, h3, h4, h5, h6⟩, h7, h8, h9⟩ := h.use2 hq
  obtain ⟨p8, lg2, cy2, D2, E2, ⟨k1, k2, k3, k4, k5, k6⟩, k7, k8, k9⟩ := k.use2 kq
  have b1 := CYC_bd D (cq G q)
  have b2 := CYC_bd D2 (cq G q2)
  rw [← h8] at b1
  rw [← k8] at b2
  have e1 : (cy.toNat : Int) = cy := (nt b1.1).symm
  have e2 : (cy2.toNat : Int) = cy2 := (nt b2.1).symm
  have hP : PH1 G q q2 = PHS E E2 (cy.toNat : Int) (cy2.toNat : Int) := by
    rw [e1, e2]
    refine propext ((PHS_congr h7 k7).symm.trans ?_)
    rw [← h8, ← k8]
    exact (PHS_congrE h9 k9).symm
  rw [hP]
  have z1 := hq.1
  have z2 := kq.1
  exact c_P_hasPhasesOf l ε ws a p9 _ lg E _ h1 h2 a2 p8 _ lg2 E2 _ k1 k2 ⟨by omega, by omega⟩ h5 k5
theorem c_P_seconds (l : Launch) (ε : EV) (ws : va_W) {G : Nat → Nat → Int} {q q2 : Int} {a a2 : Nat} (h : PATR (IN ws) ε G q a) (hq : PQ G q) (k : PATR (IN ws) ε G q2 a2) (kq : PQ G q2) : CT l yX3_hasSecondsOf cX3_hasSecondsOf 3 (some .boolean) rm_c_P_hasSecondsOf ε [.ref a, .ref a2] (ws) (fun v w => v = some (.int (iv (bz (tb (SC1 G q q2))))) ∧ w = ws) NX := by
  obtain ⟨p9, lg, cy, D, E, ⟨h1, h2, h3, h4, h5, h6⟩, h7, h8⟩ := h.use2 hq
  obtain ⟨p8, lg2, cy2, D2, E2, ⟨k1, k2, k3, k4, k5, k6⟩, k7, k8⟩ := k.use2 kq
  unfold SC1
  rw [← h6, ← k6]
  exact c_P_hasSecondsOf l ε ws a p9 _ lg D _ h1 h3 h4 a2 p8 _ lg2 D2 _ k1 k3 k4
theorem c_P_looks (l : Launch) (ε : EV) (ws : va_W) {G : Nat → Nat → Int} {q : Int} {a : Nat} (h : PATR (IN ws) ε G q a) (hq : PQ G q) (lk : Int) (hlk : 0 ≤ lk ∧ lk < 2 ^ 62) (many : Int) (hm : 0 ≤ many ∧ many ≤ 60) : CT l yX3_canLookLike cX3_canLookLike 5 (some .boolean) rm_c_P_canLookLike ε [.ref a, .long (jv lk), .int (iv many)] (ws) (fun v w => v = some (.int (iv (bz (tb (EXb (fun t => LOOK (LQ G q) lk many t) (G 3 q.toNat)))))) ∧ w = ws) NX := by
  obtain ⟨p9, lg, cy, D, E, ⟨h1, h2, h3, h4, h5, h6⟩, h7, h8⟩ := h.use2 hq
  rw [← h6]
  exact c_P_canLookLike l ε ws a p9 _ lg D _ h1 h3 h4 lk hlk many hm
theorem LAMR.obj {ws : va_W} {ε : EV} {G : Nat → Nat → Int} {i : Int} {a : Nat} (h : LAMR (IN ws) ε G i a) : ∃ (si : Nat) (g : Nat → Int), In ws a (oLa (G 4 i.toNat) (G 5 i.toNat) si (G 6 i.toNat) (G 7 i.toNat) (G 10 i.toNat)) ∧ In ws si (eI ε 32 g) ∧ ∀ j : Nat, j < 32 → g j = BW (VG G i j) 32 := h
theorem c_L_seen (l : Launch) (ε : EV) (ws : va_W) {G : Nat → Nat → Int} {i : Int} {a : Nat} (h : LAMR (IN ws) ε G i a) (x y : Int) (rx : rg x) (ry : rg y) : CT l yX1_canBeSeenFrom cX1_canBeSeenFrom 3 (some .boolean) rm_c_L_canBeSeenFrom ε [.ref a, .int (iv x), .int (iv y)] (ws) (fun v w => v = some (.int (iv (bz (tb (SE1 G i x y))))) ∧ w = ws) NX := by
  obtain ⟨si, g, h1, h2, h3⟩ := h.obj
  exact c_L_canBeSeenFrom l ε ws a si _ _ _ _ _ (VG G i) h1 g h2 h3 x y rx ry
theorem c_L_shared (l : Launch) (ε : EV) (ws : va_W) {G : Nat → Nat → Int} {i j : Int} {a a2 : Nat} (h : LAMR (IN ws) ε G i a) (k : LAMR (IN ws) ε G j a2) : CT l yX1_placesSharedWith cX1_placesSharedWith 4 (some .int) rm_c_L_placesSharedWith ε [.ref a, .ref a2] (ws) (fun v w => v = some (.int (iv (SH1 G i j))) ∧ w = ws) NX := by
  obtain ⟨si, g, h1, h2, h3⟩ := h.obj
  obtain ⟨sj, g2, k1, k2, k3⟩ := k.obj
  exact c_L_placesSharedWith l ε ws a si _ _ _ _ _ (VG G i) h1 g h2 h3 a2 sj _ _ _ _ _ (VG G j) k1 g2 k2 k3
theorem SH1_bd (G : Nat → Nat → Int) (i j : Int) : 0 ≤ SH1 G i j ∧ SH1 G i j ≤ 1024 := SUMF.bd (fun u => by have z := CNT.bd (fun v => VG G i u v ∧ VG G j u v) 32; exact ⟨z.1, z.2⟩) 32
abbrev CLA (G : Nat → Nat → Int) (i k : Int) : Prop := PH1 G (G 6 i.toNat) (G 6 k.toNat) ∧ 0 < SH1 G i k
/-- what the lamp i gives with those behind it -/
abbrev CLB (G : Nat → Nat → Int) (i : Int) : Int → Prop := fun u => i < u ∧ CLA G i u
noncomputable def CLC (G : Nat → Nat → Int) (m : Nat) : Nat → Int := SUMF (fun i => CNT (CLB G i) m)
abbrev CAN2 (G : Nat → Nat → Int) (ch x y i fr many k : Int) : Prop := (G 13 (12 * ch + k).toNat ≠ -1 ∧ SE1 G k x y) ∧ EXb (fun t => LOOK (LQ G (G 13 (12 * ch + k).toNat)) (BW (LK1 G i fr) many.toNat) many t) (G 3 (G 13 (12 * ch + k).toNat).toNat)
theorem CNT.none {P : Int → Prop} : ∀ {t : Nat}, (∀ u : Int, 0 ≤ u → u < t → ¬ P u) → CNT P t = 0 := by
  intro t
  induction t with
  | zero => intro _; rfl
  | succ t ih =>
    intro h
    show CNT P t + bz (tb (P t)) = 0
    rw [ih (fun u a b => h u a (by omega)), tb_f (h t (by omega) (by omega))]
    rfl
theorem TK.stay {P : Int → Prop} {k : Int} (h0 : 0 ≤ k) (h1 : TK P k.toNat ≠ -1) (h2 : P k) {m : Int} (hm : k < m) : TK P m.toNat = -2 := by
  have h3 : TK P (k + 1).toNat = -2 := by rw [TK.succ h0, tb_t h2, if_pos rfl, if_neg h1]
  have h4 : ∀ d : Nat, TK P ((k + 1).toNat + d) = -2 := by
    intro d
    induction d with
    | zero => exact h3
    | succ d ih =>
      show (if tb (P _) = true then (if TK P ((k + 1).toNat + d) = -1 then _ else -2) else TK P ((k + 1).toNat + d)) = _
      rw [ih, if_neg (show ¬ ((-2 : Int) = -1) by decide), ite_self]
  rw [show m.toNat = (k + 1).toNat + (m - (k + 1)).toNat by omega]
  exact h4 _
