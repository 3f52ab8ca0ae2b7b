/-! what the class's objects hold, told by the reference's numbers: n, G. I r a e: at a, whose role is r, lies e -/
abbrev LK : Type := Int → Nat → va_E → Prop
def IN (ws : va_W) : LK := fun _ a e => In ws a e
def IP (L : List Nat) (f : Nat → va_E) (ρ : Nat → Int) : LK := fun r a e => (a ∈ L ∧ f a = e) ∧ ρ a = r
def LISTR (I : LK) (ε : EV) (r re : Int) (al : Nat) (cnt : Int) (el : Int → Nat) : Prop :=
  ∃ (md : Int) (ed : Nat), I r al (oAL md ed cnt) ∧ ((ed = ε.2.2.2 0 ∧ cnt = 0) ∨ ∃ (cap : Nat) (g : Nat → Option Nat), I re ed (eO ε cap g) ∧ (0 < cnt ∧ cnt ≤ cap ∧ cap ≤ 900) ∧ ∀ i : Int, 0 ≤ i → i < cnt → g i.toNat = some (el i))
def PATR (I : LK) (ε : EV) (G : Nat → Nat → Int) (q : Int) (a : Nat) : Prop :=
  ∃ (p9 : Nat) (lg cy : Int) (D E : Nat → Int), I (1000 + q) a (oPa (G 3 q.toNat) lg p9) ∧ I (2000 + q) p9 (eI ε cy.toNat E) ∧ (∀ k : Int, 0 ≤ k → k < cq G q → D k.toNat = ph G q k) ∧ (∀ k, rg (D k)) ∧ BITS D (cq G q) (G 3 q.toNat) lg ∧ cy = CYC D (cq G q) ∧ (∀ k : Int, 0 ≤ k → k < cy → E k.toNat = D k.toNat) ∧ ∀ k, rg (E k)
def LAMR (I : LK) (ε : EV) (G : Nat → Nat → Int) (i : Int) (a : Nat) : Prop :=
  ∃ (si : Nat) (g : Nat → Int), I (3000 + i) a (oLa (G 4 i.toNat) (G 5 i.toNat) si (G 6 i.toNat) (G 7 i.toNat) (G 10 i.toNat)) ∧ I (4000 + i) si (eI ε 32 g) ∧ ∀ j : Nat, j < 32 → g j = BW (VIS (G 4 i.toNat) (G 5 i.toNat) (G 8 i.toNat) (G 9 i.toNat) j) 32
def NOTP (z : Int) : Int := if z % 32 = 31 then -1 else z % 32
def NOTR (I : LK) (G : Nat → Nat → Int) (j : Int) (a : Nat) : Prop := I (5000 + j) a (oNo (G 11 j.toNat / 32) (NOTP (G 11 j.toNat)))
def CHAR (I : LK) (ε : EV) (G : Nat → Nat → Int) (ch : Int) (a : Nat) : Prop :=
  ∃ (pa : Nat) (S : Nat → Int), I (6000 + ch) a (oCh pa (G 12 ch.toNat)) ∧ I (7000 + ch) pa (eI ε 12 S) ∧ ∀ k : Int, 0 ≤ k → k < 12 → S k.toNat = G 13 (12 * ch + k).toNat
def RX (I : LK) (ε : EV) (x : Nat) (n : Nat → Int) (G : Nat → Nat → Int) : Prop :=
  ∃ (dr aP aL aT aC : Nat) (Dr : Nat → Int) (eP eL eT eC : Int → Nat), I 0 x (oLR dr (n 0) aP aL aT aC) ∧ (I 1 dr (eI ε 6 Dr) ∧ (∀ k : Int, 0 ≤ k → k < n 0 → Dr k.toNat = G 0 k.toNat) ∧ ∀ k, rg (Dr k)) ∧
    LISTR I ε 2 6 aP (n 1) eP ∧ LISTR I ε 3 7 aL (n 2) eL ∧ LISTR I ε 4 8 aT (n 3) eT ∧ LISTR I ε 5 9 aC (n 4) eC ∧
    (∀ q : Int, 0 ≤ q → q < n 1 → PATR I ε G q (eP q)) ∧ (∀ i : Int, 0 ≤ i → i < n 2 → LAMR I ε G i (eL i)) ∧ (∀ j : Int, 0 ≤ j → j < n 3 → NOTR I G j (eT j)) ∧ ∀ ch : Int, 0 ≤ ch → ch < n 4 → CHAR I ε G ch (eC ch)
theorem LISTR.map {I J : LK} {ε : EV} {r re : Int} {al : Nat} {cnt : Int} {el : Int → Nat} (h : ∀ r a e, I r a e → J r a e) (q : LISTR I ε r re al cnt el) : LISTR J ε r re al cnt el := by
  obtain ⟨md, ed, h1, h2⟩ := q
  refine ⟨md, ed, h _ _ _ h1, h2.imp id ?_⟩
  rintro ⟨cap, g, h3, h4⟩
  exact ⟨cap, g, h _ _ _ h3, h4⟩
theorem PATR.map {I J : LK} {ε : EV} {G : Nat → Nat → Int} {q : Int} {a : Nat} (h : ∀ r a e, I r a e → J r a e) (z : PATR I ε G q a) : PATR J ε G q a := by
  obtain ⟨p9, lg, cy, D, E, h1, h2, h3⟩ := z
  exact ⟨p9, lg, cy, D, E, h _ _ _ h1, h _ _ _ h2, h3⟩
theorem LAMR.map {I J : LK} {ε : EV} {G : Nat → Nat → Int} {q : Int} {a : Nat} (h : ∀ r a e, I r a e → J r a e) (z : LAMR I ε G q a) : LAMR J ε G q a := by
  obtain ⟨si, g, h1, h2, h3⟩ := z
  exact ⟨si, g, h _ _ _ h1, h _ _ _ h2, h3⟩
theorem CHAR.map {I J : LK} {ε : EV} {G : Nat → Nat → Int} {q : Int} {a : Nat} (h : ∀ r a e, I r a e → J r a e) (z : CHAR I ε G q a) : CHAR J ε G q a := by
  obtain ⟨pa, S, h1, h2, h3⟩ := z
  exact ⟨pa, S, h _ _ _ h1, h _ _ _ h2, h3⟩
theorem RX.map {I J : LK} {ε : EV} {x : Nat} {n : Nat → Int} {G : Nat → Nat → Int} (h : ∀ r a e, I r a e → J r a e) (q : RX I ε x n G) : RX J ε x n G := by
  obtain ⟨dr, aP, aL, aT, aC, Dr, eP, eL, eT, eC, h1, ⟨h2, h3⟩, h4, h5, h6, h7, h8, h9, h10, h11⟩ := q
  exact ⟨dr, aP, aL, aT, aC, Dr, eP, eL, eT, eC, h _ _ _ h1, ⟨h _ _ _ h2, h3⟩, h4.map h, h5.map h, h6.map h, h7.map h, fun q a b => (h8 q a b).map h, fun q a b => (h9 q a b).map h, fun q a b => h _ _ _ (h10 q a b), fun q a b => (h11 q a b).map h⟩
theorem IP.IN {X : va_W} {L : List Nat} {f : Nat → va_E} {ρ : Nat → Int} : ∀ r a e, IP L f ρ r a e → IN (X ++ va_pl L f) r a e := fun _ _ _ h => in_pl h.1.1 h.1.2
/-- a list that holds something: its row of elements -/
theorem LISTR.own {ws : va_W} {ε : EV} {r re : Int} {al : Nat} {cnt : Int} {el : Int → Nat} (q : LISTR (IN ws) ε r re al cnt el) : ∃ (md : Int) (ed : Nat), In ws al (oAL md ed cnt) ∧ (0 < cnt → ∃ (cap : Nat) (g : Nat → Option Nat), In ws ed (eO ε cap g) ∧ (cnt ≤ cap ∧ cap < 100000) ∧ ∀ i : Int, 0 ≤ i → i < cnt → g i.toNat = some (el i)) := by
  obtain ⟨md, ed, h1, h2⟩ := q
  refine ⟨md, ed, h1, fun h0 => ?_⟩
  rcases h2 with ⟨-, h2⟩ | ⟨cap, g, h3, h4, h5⟩
  · omega
  · exact ⟨cap, g, h3, ⟨h4.2.1, by omega⟩, h5⟩
theorem litF_congr {d d2 : Int → Int} {c : Nat} (h : ∀ k : Int, 0 ≤ k → k < c → d k = d2 k) : ∀ (f : Nat) (k r : Int), 0 ≤ k → k + f ≤ c → litF d f k r = litF d2 f k r := by
  intro f
  induction f with
  | zero => intro k r _ _; rfl
  | succ f ih =>
    intro k r h1 h2
    unfold litF
    rw [h k h1 (by omega), ih (k + 1) _ (by omega) (by omega)]
theorem sf_congr {d d2 : Int → Int} {c : Nat} (h : ∀ k : Int, 0 ≤ k → k < c → d k = d2 k) : ∀ (f : Nat) (k : Int), 0 ≤ k → k + f ≤ c → sf d f k = sf d2 f k := by
  intro f
  induction f with
  | zero => intro k _ _; rfl
  | succ f ih =>
    intro k h1 h2
    unfold sf
    rw [h k h1 (by omega), ih (k + 1) (by omega) (by omega)]
theorem PV.congr {d d2 : Int → Int} {c : Nat} {pe : Int} (h : ∀ k : Int, 0 ≤ k → k < c → d2 k = d k) (v : PV d c pe) : PV d2 c pe := by
  obtain ⟨h1, h2, h3⟩ := v
  exact ⟨h1, fun k a b => by rw [h k a b]; exact h2 k a b, by rw [h3]; exact (sf_congr h c 0 (by omega) (by omega)).symm⟩
theorem cycF_bd (D : Nat → Int) (c : Int) (hc : 0 ≤ c) : ∀ (k : Nat) (few : Int), 0 ≤ few → 0 ≤ cycF D c k few ∧ cycF D c k few ≤ c := by
  intro k
  induction k with
  | zero => intro few _; exact ⟨hc, Int.le_refl c⟩
  | succ k ih =>
    intro few h
    unfold cycF
    split
    · split
      · omega
      · exact ih (few + 2) (by omega)
    · omega
theorem CYC_bd (D : Nat → Int) (c : Nat) : 0 ≤ CYC D c ∧ CYC D c ≤ c := cycF_bd D c (by omega) 3 2 (by omega)
section RCAST
variable {p : Program} {l : Launch} {e : Env} {R : Room} {s : State} {m : MethodId} {args : Array Value} {below : List Frame} {meth : Method} {c : Code} {H : Heap} {locs : List Loc} {cells slots : Nat} {Q : State → Prop}
variable {cc : ByteArray} {pc : Nat} {ls : Array Slot} {rest : List Value} {ε : EV} {ws : va_W} {a : Nat} {mL : Nat} {ret : Option FieldType} {own nm : String} {tb : List ExceptionTableEntry}
theorem r_cast (hC : CTX p s m args meth c cc mL ret own nm tb) (hK : WK ε s) (hP : WP ε ws H) {ci : Nat} {fs : List Value} {C : String} {T : u_T} {N index : Nat} (hi : In ws a (.inr (ci, fs))) (hc : vwCl[ci]? = some (C, T, N)) (hlink : Cond.classLink own index C ∈ WALL) (hdg : decode cc pc = .ok (.checkcast index, 3))
    (kk : W p l e R s m args below meth c H locs cells slots Q (F0 m (pc + 3) ls (.ref a :: rest))) : W p l e R s m args below meth c H locs cells slots Q (F0 m pc ls (.ref a :: rest)) := by
  obtain ⟨q, hq⟩ := hi
  exact va_castS hC.1 hC.2.1 hC.2.2.2.1 (hC.2.2.2.2.1 _ hlink) (hK.1 ci _ hc).2 (va_recv hK hP hc hq) hdg kk
end RCAST
