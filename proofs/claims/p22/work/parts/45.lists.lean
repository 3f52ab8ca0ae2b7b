/-! a list of the class takes one more; all that has another role stays -/
def KEEP (L : List Nat) (f : Nat → va_E) (ρ : Nat → Int) (L' : List Nat) (f' : Nat → va_E) (ρ' : Nat → Int) (S : Int → Prop) : Prop := ∀ (r : Int) (a : Nat) (e : va_E), IP L f ρ r a e → ¬ S r → IP L' f' ρ' r a e
theorem KEEP.trans {L L1 L2 : List Nat} {f f1 f2 : Nat → va_E} {ρ ρ1 ρ2 : Nat → Int} {S S1 S2 : Int → Prop} (h1 : KEEP L f ρ L1 f1 ρ1 S1) (h2 : KEEP L1 f1 ρ1 L2 f2 ρ2 S2) (k1 : ∀ r, S1 r → S r) (k2 : ∀ r, S2 r → S r) : KEEP L f ρ L2 f2 ρ2 S :=
  fun r a e h hn => h2 r a e (h1 r a e h (fun z => hn (k1 r z))) (fun z => hn (k2 r z))
theorem ADDED.list {ε : EV} {X : va_W} {L : List Nat} {f : Nat → va_E} {ρ : Nat → Int} {al ed : Nat} {md cnt r re : Int} {x : Nat} {d : Nat → Option Nat} {el : Int → Nat} {w : va_W} (h : ADDED ε X L f al ed md cnt x d w) (hal : al ∈ L) (hr : ρ al = r) (hed : ed = al ∨ ρ ed = re) (h0 : 0 ≤ cnt) (hd : ∀ i : Int, 0 ≤ i → i < cnt → d i.toNat = some (el i)) :
    ∃ (L' : List Nat) (f' : Nat → va_E) (ρ' : Nat → Int), w = X ++ va_pl L' f' ∧ KEEP L f ρ L' f' ρ' (fun z => z = r ∨ z = re) ∧ LISTR (IP L' f' ρ') ε r re al (cnt + 1) (fun i => if i = cnt then x else el i) := by
  obtain ⟨L', f', ed', cap', g', h1, h2, h3, h4, h5, h6, h7⟩ := h
  have hel : ∀ i : Int, 0 ≤ i → i < cnt + 1 → g' i.toNat = some (if i = cnt then x else el i) := fun i a b => by
    by_cases e : i = cnt
    · rw [if_pos e, e, h6]
    · rw [if_neg e, h5 i a (by omega), hd i a (by omega)]
  have hne : ∀ b, ρ b ≠ r → ρ b ≠ re → b ≠ al ∧ b ≠ ed := fun b q1 q2 => by
    have q3 : b ≠ al := fun z => q1 (z ▸ hr)
    refine ⟨q3, fun z => ?_⟩
    rcases hed with hed | hed
    · exact q3 (z.trans hed)
    · exact q2 (z ▸ hed)
  rcases h1 with ⟨rfl, rfl, hin⟩ | ⟨rfl, hni⟩
  · have hre : ρ ed' = re := by
      rcases hed with hed | hed
      · rw [hed] at h2
        have z := h2.1.symm.trans h2.2
        cases z
      · exact hed
    refine ⟨L', f', ρ, h7, fun z a e q1 q2 => ?_, ⟨md, ed', ⟨⟨hal, h2.1⟩, hr⟩, Or.inr ⟨cap', g', ⟨⟨hin, h2.2⟩, hre⟩, ⟨by omega, h4⟩, hel⟩⟩⟩
    obtain ⟨⟨q3, q4⟩, q5⟩ := q1
    obtain ⟨q6, q7⟩ := hne a (fun k => q2 (Or.inl (q5.symm.trans k))) (fun k => q2 (Or.inr (q5.symm.trans k)))
    exact ⟨⟨q3, (h3 a q3 q6 q7).trans q4⟩, q5⟩
  · refine ⟨_, f', va_up ρ ed' re, h7, fun z a e q1 q2 => ?_, ⟨md, ed', ⟨⟨List.mem_append_left _ hal, h2.1⟩, (va_up_ne _ _ (fun k : al = ed' => hni (k ▸ hal))).trans hr⟩, Or.inr ⟨cap', g', ⟨⟨List.mem_append_right _ (List.mem_singleton.mpr rfl), h2.2⟩, va_up_self _ _ _⟩, ⟨by omega, h4⟩, hel⟩⟩⟩
    obtain ⟨⟨q3, q4⟩, q5⟩ := q1
    obtain ⟨q6, q7⟩ := hne a (fun k => q2 (Or.inl (q5.symm.trans k))) (fun k => q2 (Or.inr (q5.symm.trans k)))
    exact ⟨⟨List.mem_append_left _ q3, (h3 a q3 q6 q7).trans q4⟩, (va_up_ne _ _ (fun k : a = ed' => hni (k ▸ q3))).trans q5⟩
theorem CT.weak {l : Launch} {y : MethodName} {cc : ByteArray} {mL : Nat} {ret : Option FieldType} {rm : Room} {ε : EV} {As : List Value} {ws : va_W} {post post' : Option Value → va_W → Prop} {px px' : String → va_W → Prop} (h : CT l y cc mL ret rm ε As ws post px) (h1 : ∀ v w, post v w → post' v w) (h2 : ∀ E w, px E w → px' E w) : CT l y cc mL ret rm ε As ws post' px' := by
  intro p e a1 a2 a3 s m args below a4 a5 a6 a7
  obtain ⟨k, o, h3, h4, h5, h6⟩ := h p e a1 a2 a3 s m args below a4 a5 a6 a7
  refine ⟨k, o, h3, h4, h5, ?_⟩
  rcases h6 with ⟨⟨v, ws', g1, g2, g3⟩, g4⟩ | ⟨q, g1, E, ce, L, ⟨ws', g2, g3⟩, g4⟩
  · exact Or.inl ⟨⟨v, ws', g1, h1 _ _ g2, g3⟩, g4⟩
  · exact Or.inr ⟨q, g1, E, ce, L, ⟨ws', h2 _ _ g2, g3⟩, g4⟩
theorem c_A_add (l : Launch) (ε : EV) (X : va_W) (L : List Nat) (f : Nat → va_E) (ρ : Nat → Int) {r re : Int} {al : Nat} {cnt : Int} {el : Int → Nat} (hl : LISTR (IP L f ρ) ε r re al cnt el) (hcnt : 0 ≤ cnt ∧ cnt ≤ 600) (ci : Nat) (r9 : vw_C) (hc9 : vwCl[ci]? = some r9) (hcast : Cond.castable r9.1 nObj ∈ castW) (hci : ci ≠ 0)
    (hel : ∀ i : Int, 0 ≤ i → i < cnt → el i ∈ L ∧ ∃ fs, f (el i) = .inr (ci, fs)) (x : Nat) (fs9 : List Value) (hxL : x ∈ L) (hfx : f x = .inr (ci, fs9)) :
    CT l yJx4a65c_add_9ea2d cJx4a65c_add_9ea2d 2 (some .boolean) rm_c_A_addC ε [.ref al, .ref x] (X ++ va_pl L f) (fun v w => v = some (.int (iv 1)) ∧ ∃ (L' : List Nat) (f' : Nat → va_E) (ρ' : Nat → Int), w = X ++ va_pl L' f' ∧ KEEP L f ρ L' f' ρ' (fun z => z = r ∨ z = re) ∧ LISTR (IP L' f' ρ') ε r re al (cnt + 1) (fun i => if i = cnt then x else el i)) NX := by
  obtain ⟨md, ed, ⟨⟨ha1, ha2⟩, ha3⟩, h2⟩ := hl
  have hxa : x ≠ al := fun z => by
    rw [z, ha2] at hfx
    injection hfx with h3
    injection h3 with h4 _
    exact hci h4.symm
  rcases h2 with ⟨h2, h3⟩ | ⟨cap, g, ⟨⟨hb1, hb2⟩, hb3⟩, h4, h5⟩
  · subst h2 h3
    exact CT.weak (c_A_addA l ε X L f al md (fun _ => none) ha1 ha2 ci r9 hc9 hcast hci x fs9 hxL hfx hxa) (fun v w q => ⟨q.1, q.2.list ha1 ha3 (Or.inl rfl) (by omega) (fun i a b => by omega)⟩) (fun _ _ q => q)
  · have hne : al ≠ ed := fun z => by
      rw [z, hb2] at ha2
      cases ha2
    have hxe : x ≠ ed := fun z => by
      rw [z, hb2] at hfx
      cases hfx
    by_cases hn : cnt < cap
    · exact CT.weak (c_A_addB l ε X L f al ed md cnt cap g ha1 ha2 hb1 hb2 hne ci r9 hc9 hcast hci x fs9 hxL hfx hxa hxe ⟨by omega, hn⟩ (by omega)) (fun v w q => ⟨q.1, q.2.list ha1 ha3 (Or.inr hb3) (by omega) h5⟩) (fun _ _ q => q)
    · refine CT.weak (c_A_addC l ε X L f al ed md cnt cap g ha1 ha2 hb1 hb2 hne ci r9 hc9 hcast hci (fun i hi y hy => ?_) x fs9 hxL hfx hxa hxe (by omega) (by omega)) (fun v w q => ⟨q.1, q.2.list ha1 ha3 (Or.inr hb3) (by omega) h5⟩) (fun _ _ q => q)
      have z := h5 i (by omega) (by omega)
      rw [Int.toNat_natCast, hy] at z
      rw [Option.some.inj z]
      exact hel i (by omega) (by omega)
