/-! whole numbers: an int is iv z, a long is jv z, z an Int -/
def iv (z : Int) : Int32 := Int32.ofInt z
def jv (z : Int) : Int64 := Int64.ofInt z
abbrev rg (z : Int) : Prop := -2147483648 ≤ z ∧ z < 2147483648
abbrev rgj (z : Int) : Prop := -9223372036854775808 ≤ z ∧ z < 9223372036854775808
theorem iv_toInt {z : Int} (h : rg z) : (iv z).toInt = z := by
  unfold iv
  rw [Int32.toInt_ofInt, show Int32.size = 4294967296 from rfl]
  obtain ⟨h1, h2⟩ := h
  rw [Int.bmod_eq_of_le (by omega) (by omega)]
theorem jv_toInt {z : Int} (h : rgj z) : (jv z).toInt = z := by
  unfold jv
  rw [Int64.toInt_ofInt, show Int64.size = 18446744073709551616 from rfl]
  obtain ⟨h1, h2⟩ := h
  rw [Int.bmod_eq_of_le (by omega) (by omega)]
theorem iv_of (x : Int32) : x = iv x.toInt := by
  unfold iv
  exact (Int32.ofInt_toInt x).symm
theorem iv_rg (x : Int32) : rg x.toInt := ⟨Int32.le_toInt x, Int32.toInt_lt x⟩
theorem iv_add (a b : Int) : iv a + iv b = iv (a + b) := by unfold iv; exact (Int32.ofInt_add a b).symm
theorem iv_sub (a b : Int) : iv a - iv b = iv (a - b) := by unfold iv; exact (Int32.ofInt_sub a b).symm
theorem iv_mul (a b : Int) : iv a * iv b = iv (a * b) := by unfold iv; exact (Int32.ofInt_mul a b).symm
theorem iv_neg (a : Int) : -iv a = iv (-a) := by unfold iv; exact (Int32.ofInt_neg a).symm
theorem iv_inj {a b : Int} (ha : rg a) (hb : rg b) (h : iv a = iv b) : a = b := by
  rw [← iv_toInt ha, ← iv_toInt hb, h]
theorem jv_inj {a b : Int} (ha : rgj a) (hb : rgj b) (h : jv a = jv b) : a = b := by
  rw [← jv_toInt ha, ← jv_toInt hb, h]
theorem iv_lt {a b : Int} (ha : rg a) (hb : rg b) : iv a < iv b ↔ a < b := by
  rw [Int32.lt_iff_toInt_lt, iv_toInt ha, iv_toInt hb]
theorem iv_le {a b : Int} (ha : rg a) (hb : rg b) : iv a ≤ iv b ↔ a ≤ b := by
  rw [Int32.le_iff_toInt_le, iv_toInt ha, iv_toInt hb]
theorem iv_eq {a b : Int} (ha : rg a) (hb : rg b) : iv a = iv b ↔ a = b := ⟨iv_inj ha hb, fun h => by rw [h]⟩
theorem iv_zero : iv 0 = 0 := by decide
theorem iv_nat (n : Nat) : iv (n : Int) = nI n := by unfold iv nI; exact Int32.ofInt_eq_ofNat
theorem jv_nat (n : Nat) : jv (n : Int) = lN n := by unfold jv lN; exact Int64.ofInt_eq_ofNat
theorem iv_clamp {z : Int} (h : rg z) : (iv z).toNatClampNeg = z.toNat := by
  show (iv z).toInt.toNat = z.toNat
  rw [iv_toInt h]
theorem iv_in {z : Int} {n : Nat} (h0 : 0 ≤ z) (h : z < n) (hn : n ≤ 2147483648) : vp_in (iv z) n := by
  rw [vp_in_iff, iv_toInt ⟨by omega, by omega⟩]
  exact ⟨h0, h⟩
theorem iv_long (z : Int) (h : rg z) : (iv z).toInt64 = jv z := by
  apply Int64.toInt_inj.mp
  rw [Int32.toInt_toInt64, iv_toInt h, jv_toInt ⟨by have := h.1; omega, by have := h.2; omega⟩]
def bz (b : Bool) : Int := if b then 1 else 0
theorem bz_t : bz true = 1 := rfl
theorem bz_f : bz false = 0 := rfl
theorem bz_rg (b : Bool) : rg (bz b) := by cases b <;> decide
theorem bz_1 {b : Bool} (h : b = true) : iv 1 = iv (bz b) := by rw [h]; rfl
theorem bz_0 {b : Bool} (h : b = false) : iv 0 = iv (bz b) := by rw [h]; rfl
theorem bz_01 (b : Bool) : bz b = 0 ∨ bz b = 1 := by cases b <;> simp [bz]
/-! the environment: n0 the heap's size at the start; D, the classes' places; the array classes; addresses that stay -/
abbrev EV : Type := Nat × va_G × (Nat → ClassId) × (Nat → Nat)
abbrev AA (ε : EV) : Nat → Prop := fun q => ε.1 ≤ q
abbrev tys (ε : EV) : List (ClassId × FieldType) := [(ε.2.2.1 0, .int), (ε.2.2.1 2, .object "java/lang/Object")]
abbrev WP (ε : EV) (ws : va_W) (H : Heap) : Prop := va_P ε.2.1 vwCl ws H
abbrev WD (ε : EV) (ws : va_W) : Prop := va_D (AA ε) ws
abbrev WS (ε : EV) (H0 H : Heap) (locs : List Loc) : Prop := va_S (AA ε) H0 H locs
abbrev WK (ε : EV) (s : State) : Prop := va_K ε.2.1 vwCl (tys ε) s
def nObj : String := "java/lang/Object"
def castW : List Cond := [.castable RX0 nObj, .castable RX1 nObj, .castable RX2 nObj, .castable RX3 nObj, .castable "[I" "java/lang/Cloneable", .castable "java/lang/IndexOutOfBoundsException" "java/lang/IndexOutOfBoundsException", .castable "java/lang/IllegalArgumentException" "java/lang/IllegalArgumentException", .castable "java/lang/IllegalStateException" "java/lang/IllegalStateException"]
def nIAE : String := "java/lang/IllegalArgumentException"
def nISE : String := "java/lang/IllegalStateException"
def nIOE : String := "java/lang/IndexOutOfBoundsException"
/-- the written texts of the exceptions: pool index, text -/
def strT : List (Nat × String) := [(39, "the draft has all its phases"), (44, "the draft has not 2, 4 or 6 phases"), (50, "there are all the patterns that can be"), (89, "there are all the lamps that can be"), (114, "the lamp has failed already, or has not"), (147, "there are all the charts that can be"), (185, "a number is out of its range"), (190, "there is no such pattern"), (193, "there is no such lamp"), (195, "there is no such chart")]
def declW : List Cond := [.declares (Bundle.initS "java/lang/RuntimeException"), .declares (Bundle.initS "java/lang/Exception"), .declares (Bundle.initS Bundle.tN)]
def ENV (ε : EV) (U : State) (H : Heap) : Prop :=
  ε.1 ≤ H.size ∧ WK ε U ∧ (∀ w ∈ castW, ∃ C T, w = .castable C T ∧ va_Nw w U) ∧
  (∀ a ∈ [nIAE, nISE, nIOE], ∀ b ∈ [nIAE, nISE, nIOE], a ≠ b → va_Nc a b U) ∧
  va_Z "java/util/ArrayList" "DEFAULTCAPACITY_EMPTY_ELEMENTDATA" "[Ljava/lang/Object;" (.ref (ε.2.2.2 0)) (AA ε) U H ∧
  va_T (.object "java/lang/Object") (ε.2.2.2 0) 0 (fun _ => .null) (AA ε) U H ∧
  vx_Zq Bundle.tN "UNASSIGNED_STACK" Bundle.steD (AA ε) U H ∧ vx_Zq Bundle.tN "SUPPRESSED_SENTINEL" Bundle.listD (AA ε) U H ∧
  va_Mi "[Ljava/lang/Object;" (ε.2.2.2 1) U ∧ va_Dc U ∧ va_AO "java/lang/Object" U ∧
  (∀ q ∈ strT, ∃ a, vk_R RX4 q.1 q.2 a U) ∧ (∀ w ∈ declW, ∃ y, w = .declares y ∧ va_Nw w U)
theorem ENV.go {ε : EV} {s U : State} {H0 H : Heap} {locs : List Loc} (h : ENV ε s H0) (hS : WS ε H0 H locs) (hW : s.WarmedH U.vm) : ENV ε U H := by
  obtain ⟨h1, h2, h3, h4, h5, h6, h7, h8, h9, h10, h11, h12, h13⟩ := h
  refine ⟨Nat.le_trans h1 hS.1, va_K.moved hW.alike h2, ?_, fun a ha b hb hn => (h4 a ha b hb hn).moved hW.alike, (h5.moved hW.alike).kept hS.2.1, (h6.moved hW.alike).kept hS.2.1, (h7.moved hW.alike).kept hS.2.1, (h8.moved hW.alike).kept hS.2.1, h9.moved hW.alike, h10.moved hW.alike, h11.moved hW.alike, fun q hq => ?_, fun w hw => ?_⟩
  · intro w hw
    obtain ⟨C, T, rfl, h⟩ := h3 w hw
    exact ⟨C, T, rfl, va_Nw.warmC hW h⟩
  · obtain ⟨a, ha⟩ := h12 q hq
    exact ⟨a, vk_R.warm hW ha⟩
  · obtain ⟨y, rfl, h⟩ := h13 w hw
    exact ⟨y, rfl, va_Nw.warmD hW h⟩
theorem ENV.calling {ε : EV} {U : State} {H : Heap} {g : JFrame} {mk : MethodId} {a : Array Value} (h : ENV ε U H) : ENV ε (U.calling g mk a) H := by
  have hW : U.WarmedH (U.calling g mk a).vm := State.WarmedH.refl U
  exact h.go (locs := []) va_S.rf hW
theorem ENV.K {ε : EV} {U : State} {H : Heap} (h : ENV ε U H) : WK ε U := h.2.1
theorem ENV.A {ε : EV} {U : State} {H : Heap} (h : ENV ε U H) : ∀ q, H.size ≤ q → AA ε q := fun q hq => Nat.le_trans h.1 hq
/-! the cells -/
def In (ws : va_W) (a : Nat) (e : va_E) : Prop := ∃ k : Nat, ws[k]? = some (a, e)
abbrev eI (ε : EV) (n : Nat) (G : Nat → Int) : va_E := .inl (ε.2.2.1 0, n, .inl (fun j => iv (G j)))
abbrev eZ (ε : EV) (n : Nat) (G : Nat → Int) : va_E := .inl (ε.2.2.1 1, n, .inl (fun j => iv (G j)))
abbrev eO (ε : EV) (n : Nat) (g : Nat → Option Nat) : va_E := .inl (ε.2.2.1 2, n, .inr (.inr (.inr (.inr g))))
abbrev eJ (ε : EV) (n : Nat) (G : Nat → Int) : va_E := .inl (ε.2.2.1 3, n, .inr (.inl (fun j => jv (G j))))
abbrev oAL (md : Int) (ed : Nat) (n : Int) : va_E := .inr (0, [.int (iv md), .ref ed, .int (iv n)])
abbrev oCh (pa : Nat) (nt : Int) : va_E := .inr (1, [.ref pa, .int (iv nt)])
abbrev oLa (x y : Int) (si : Nat) (pt bg fl : Int) : va_E := .inr (2, [.int (iv x), .int (iv y), .ref si, .int (iv pt), .int (iv bg), .int (iv fl)])
abbrev oNo (la pt : Int) : va_E := .inr (3, [.int (iv la), .int (iv pt)])
abbrev oPa (pe lg : Int) (ph : Nat) : va_E := .inr (4, [.int (iv pe), .long (jv lg), .ref ph])
abbrev oLR (dr : Nat) (dn : Int) (aP aL aT aC : Nat) : va_E := .inr (5, [.ref dr, .int (iv dn), .ref aP, .ref aL, .ref aT, .ref aC])
theorem in_pl {X : va_W} {L : List Nat} {f : Nat → va_E} {a : Nat} {e : va_E} (h : a ∈ L) (he : f a = e) : In (X ++ va_pl L f) a e := by
  obtain ⟨k, hk⟩ := va_pl_get (X := X) (f := f) h
  exact ⟨k, by rw [hk, he]⟩
theorem in_left {ws R : va_W} {a : Nat} {e : va_E} (h : In ws a e) : In (ws ++ R) a e := by
  obtain ⟨k, hk⟩ := h
  exact ⟨k, by rw [List.getElem?_append_left (List.getElem?_eq_some_iff.mp hk).1]; exact hk⟩
theorem in_right {ws R : va_W} {a : Nat} {e : va_E} (h : In R a e) : In (ws ++ R) a e := by
  obtain ⟨k, hk⟩ := h
  exact ⟨ws.length + k, by rw [List.getElem?_append_right (Nat.le_add_right _ _), Nat.add_sub_cancel_left]; exact hk⟩
theorem va_up_at {α : Type} (f : Nat → α) (k : Nat) (v : α) (j : Nat) : va_up f k v j = if j = k then v else f j := rfl
theorem upd_iv {G : Nat → Int} {z v : Int} (h : rg z) : upd (fun j => iv (G j)) (iv z).toNatClampNeg (iv v) = fun j => iv (va_up G z.toNat v j) := by
  funext j
  rw [iv_clamp h]
  unfold upd va_up
  by_cases hj : j = z.toNat <;> simp [hj]
theorem updL_jv {G : Nat → Int} {z v : Int} (h : rg z) : vp_updL (fun j => jv (G j)) (iv z).toNatClampNeg (jv v) = fun j => jv (va_up G z.toNat v j) := by
  funext j
  rw [iv_clamp h]
  unfold vp_updL va_up
  by_cases hj : j = z.toNat <;> simp [hj]
