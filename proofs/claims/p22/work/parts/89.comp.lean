/-! the questions of the harbour as programs that end -/
theorem tb_eq {P : Prop} {b : Bool} (h : b = true ↔ P) : tb P = b := (tb_of h).symm
theorem dec_iff {P : Prop} [Decidable P] : decide P = true ↔ P := ⟨of_decide_eq_true, decide_eq_true⟩
def moreB (a b : Int) : Bool := if qrt a b % 2 = 0 then decide (ab a ≤ ab b) else decide (ab b ≤ ab a)
theorem moreB_ok (a b : Int) : tb (moreP a b) = moreB a b := by
  refine tb_eq ?_
  unfold moreB moreP
  split
  · rename_i h
    exact ⟨fun z => ⟨fun _ => of_decide_eq_true z, fun k => absurd h k⟩, fun z => decide_eq_true (z.1 h)⟩
  · rename_i h
    exact ⟨fun z => ⟨fun k => absurd k h, fun _ => of_decide_eq_true z⟩, fun z => decide_eq_true (z.2 h)⟩
def sectB (a b : Int) : Int := if a = 0 ∧ b = 0 then -1 else 2 * qrt a b + bz (moreB a b)
theorem sectB_ok (a b : Int) : sectP a b = sectB a b := by
  unfold sectP sectB
  rw [moreB_ok]
def withB (a b r se : Int) : Bool := (decide (ab a ≤ r) && decide (ab b ≤ r)) && (decide (sectB a b = -1) || decide (se / 2 ^ (sectB a b).toNat % 2 = 1))
theorem withB_ok (a b r se : Int) : withB a b r se = true ↔ WITHIN a b r se := by
  unfold withB WITHIN
  rw [sectB_ok]
  simp only [Bool.and_eq_true, Bool.or_eq_true, decide_eq_true_eq]
def visB (G : Nat → Nat → Int) (i row col : Int) : Bool := withB (col - G 4 i.toNat) (row - G 5 i.toNat) (G 8 i.toNat) (G 9 i.toNat)
theorem visB_ok (G : Nat → Nat → Int) (i row col : Int) : visB G i row col = true ↔ VG G i row col := withB_ok _ _ _ _
def seeB (G : Nat → Nat → Int) (i x y : Int) : Bool := ((decide (0 ≤ y) && decide (y < 32)) && (decide (0 ≤ x) && decide (x < 32))) && visB G i y x
theorem seeB_ok (G : Nat → Nat → Int) (i x y : Int) : tb (SE1 G i x y) = seeB G i x y := by
  refine tb_eq ?_
  unfold seeB SE1
  simp only [Bool.and_eq_true, decide_eq_true_eq, visB_ok]
def cntB (p : Int → Bool) : Nat → Int
  | 0 => 0
  | k + 1 => cntB p k + bz (p (k : Int))
theorem cntB_ok {P : Int → Prop} {p : Int → Bool} (h : ∀ u, p u = true ↔ P u) : ∀ k, CNT P k = cntB p k := by
  intro k
  induction k with
  | zero => rfl
  | succ k ih =>
    show CNT P k + bz (tb (P k)) = cntB p k + bz (p k)
    rw [ih, tb_eq (h k)]
theorem SUMF_eq {f g : Int → Int} (h : ∀ u, f u = g u) : ∀ k, SUMF f k = SUMF g k := fun k => by rw [show f = g from funext h]
def shB (G : Nat → Nat → Int) (i j : Int) : Int := SUMF (fun row => cntB (fun u => visB G i row u && visB G j row u) 32) 32
theorem shB_ok (G : Nat → Nat → Int) (i j : Int) : SH1 G i j = shB G i j := by
  unfold SH1 SHARE shB
  refine SUMF_eq (fun row => cntB_ok (fun u => ?_) 32) 32
  rw [Bool.and_eq_true, visB_ok, visB_ok]
/-! patterns -/
def repB (D : Nat → Int) (c few : Int) : Bool := allN (fun i => decide (i < few) || decide (D i.toNat = D (i - few).toNat)) c.toNat
theorem repB_ok {D : Nat → Int} {c few : Int} (hf : 0 ≤ few) : repB D c few = true ↔ REPS D c few := by
  unfold repB REPS
  rw [allN_iff]
  refine ⟨fun h i a b => ?_, fun h u a b => ?_⟩
  · rcases Bool.or_eq_true _ _ ▸ h i (by omega) (by omega) with h2 | h2
    · have := of_decide_eq_true h2; omega
    · exact of_decide_eq_true h2
  · by_cases e : u < few
    · rw [decide_eq_true e]; rfl
    · rw [decide_eq_true (h u (by omega) (by omega)), Bool.or_true]
def cycB (D : Nat → Int) (c : Int) : Nat → Int → Int
  | 0, _ => c
  | k + 1, few => if few < c then (if (decide (c % few = 0) && repB D c few) = true then few else cycB D c k (few + 2)) else c
theorem cycB_ok {D : Nat → Int} {c : Int} : ∀ (k : Nat) (few : Int), 0 ≤ few → cycF D c k few = cycB D c k few := by
  intro k
  induction k with
  | zero => intro few _; rfl
  | succ k ih =>
    intro few h
    unfold cycF cycB
    rw [ih (few + 2) (by omega), show tb (CYK D c few) = (decide (c % few = 0) && repB D c few) from tb_eq (by rw [Bool.and_eq_true, dec_iff, repB_ok h]; exact Iff.rfl)]
def turnB (D D2 : Nat → Int) (cy t : Int) : Bool := allN (fun i => decide (D (tn cy t i).toNat = D2 i.toNat)) cy.toNat
theorem turnB_ok (D D2 : Nat → Int) (cy t : Int) : turnB D D2 cy t = true ↔ TURN D D2 cy t := by
  unfold turnB TURN ALLb
  rw [allN_iff]
  exact ⟨fun h u a b => of_decide_eq_true (h u a (by omega)), fun h u a b => decide_eq_true (h u a (by omega))⟩
def phsB (D D2 : Nat → Int) (c c2 : Int) : Bool := decide (c = c2) && exN (fun u => decide (u % 2 = 0) && turnB D D2 c u) c.toNat
theorem phsB_ok (D D2 : Nat → Int) (c c2 : Int) : phsB D D2 c c2 = true ↔ PHS D D2 c c2 := by
  unfold phsB PHS EVT EXb
  rw [Bool.and_eq_true, dec_iff, exN_iff]
  refine and_congr_right (fun _ => ⟨fun ⟨u, a, b, z⟩ => ?_, fun ⟨u, a, b, z1, z2⟩ => ⟨u, a, by omega, ?_⟩⟩)
  · rw [Bool.and_eq_true, dec_iff, turnB_ok] at z
    exact ⟨u, a, by omega, z⟩
  · rw [Bool.and_eq_true, dec_iff, turnB_ok]
    exact ⟨z1, z2⟩
def ph1B (G : Nat → Nat → Int) (q q2 : Int) : Bool := phsB (DG G q) (DG G q2) (cycB (DG G q) (cq G q) 3 2) (cycB (DG G q2) (cq G q2) 3 2)
theorem ph1B_ok (G : Nat → Nat → Int) (q q2 : Int) : ph1B G q q2 = true ↔ PH1 G q q2 := by
  unfold ph1B PH1 CYC
  rw [phsB_ok, cycB_ok 3 2 (by decide), cycB_ok 3 2 (by decide)]
def sc1B (G : Nat → Nat → Int) (q q2 : Int) : Bool := exN (fun t => allN (fun u => LQ G q (u + t) == LQ G q2 u) (G 3 q.toNat * G 3 q2.toNat).toNat) (G 3 q.toNat).toNat
theorem sc1B_ok (G : Nat → Nat → Int) (q q2 : Int) : sc1B G q q2 = true ↔ SC1 G q q2 := by
  unfold sc1B SC1 SECS EXb SLAT ALLb
  rw [exN_iff]
  refine ⟨fun ⟨t, a, b, z⟩ => ⟨t, a, by omega, fun u x y => ?_⟩, fun ⟨t, a, b, z⟩ => ⟨t, a, by omega, (allN_iff _).mpr (fun u x y => ?_)⟩⟩
  · exact eq_of_beq ((allN_iff _).mp z u x (by omega))
  · exact beq_iff_eq.mpr (z u x (by omega))
def clcB (G : Nat → Nat → Int) (m : Nat) : Int := SUMF (fun i => cntB (fun u => decide (i < u) && (ph1B G (G 6 i.toNat) (G 6 u.toNat) && decide (0 < shB G i u))) m) m
theorem clcB_ok (G : Nat → Nat → Int) (m : Nat) : CLC G m m = clcB G m := by
  unfold CLC clcB
  refine SUMF_eq (fun i => cntB_ok (fun u => ?_) m) m
  simp only [Bool.and_eq_true, decide_eq_true_eq, ph1B_ok, ← shB_ok]
def tkB (p : Int → Bool) : Nat → Int
  | 0 => -1
  | k + 1 => if p (k : Int) = true then (if tkB p k = -1 then (k : Int) else -2) else tkB p k
theorem tkB_ok {P : Int → Prop} {p : Int → Bool} (h : ∀ u, p u = true ↔ P u) : ∀ k, TK P k = tkB p k := by
  intro k
  induction k with
  | zero => rfl
  | succ k ih =>
    show (if tb (P k) = true then (if TK P k = -1 then (k : Int) else -2) else TK P k) = (if p k = true then (if tkB p k = -1 then (k : Int) else -2) else tkB p k)
    rw [ih, tb_eq (h k)]
def lookB (G : Nat → Nat → Int) (q i fr many t : Int) : Bool := allN (fun u => LQ G q (t + u) == ON G i (fr + u)) many.toNat
theorem lookB_ok (G : Nat → Nat → Int) (q i fr many t : Int) : lookB G q i fr many t = true ↔ LOOK (LQ G q) (BW (LK1 G i fr) many.toNat) many t := by
  unfold lookB LOOK ALLb
  rw [allN_iff]
  refine ⟨fun h u a b => ?_, fun h u a b => ?_⟩
  · show LQ G q (t + u) = true ↔ BT (BW (LK1 G i fr) many.toNat) u
    rw [BW.BT a (by omega), eq_of_beq (h u a (by omega))]
    exact Iff.rfl
  · have h1 : LQ G q (t + u) = true ↔ BT (BW (LK1 G i fr) many.toNat) u := h u a (by omega)
    rw [BW.BT a (by omega)] at h1
    exact beq_iff_eq.mpr (Bool.eq_iff_iff.mpr h1)
def canB (G : Nat → Nat → Int) (ch x y i fr many k : Int) : Bool := (decide (G 13 (12 * ch + k).toNat ≠ -1) && seeB G k x y) && exN (fun t => lookB G (G 13 (12 * ch + k).toNat) i fr many t) (G 3 (G 13 (12 * ch + k).toNat).toNat).toNat
theorem canB_ok (G : Nat → Nat → Int) (ch x y i fr many k : Int) : canB G ch x y i fr many k = true ↔ CAN2 G ch x y i fr many k := by
  unfold canB CAN2 EXb
  rw [Bool.and_eq_true, Bool.and_eq_true, dec_iff, exN_iff, ← seeB_ok, tb_iff]
  refine and_congr_right (fun _ => ⟨fun ⟨t, a, b, z⟩ => ⟨t, a, by omega, (lookB_ok _ _ _ _ _ _).mp z⟩, fun ⟨t, a, b, z⟩ => ⟨t, a, by omega, (lookB_ok _ _ _ _ _ _).mpr z⟩⟩)
def takB (G : Nat → Nat → Int) (ch x y i fr many : Int) (m : Nat) : Int := tkB (fun k => canB G ch x y i fr many k) m
theorem takB_ok (G : Nat → Nat → Int) (ch x y i fr many : Int) (m : Nat) : TK (CAN2 G ch x y i fr many) m = takB G ch x y i fr many m := tkB_ok (fun u => canB_ok G ch x y i fr many u) m
