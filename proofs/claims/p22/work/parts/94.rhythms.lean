/-! the law's harbour by hand: rhythms -/
def shinesB (G : Nat → Nat → Int) (la fr many fg : Int) : Bool := allN (fun k => ON G la (fr + k) == decide (fg / 2 ^ k.toNat % 2 = 1)) many.toNat
theorem shinesB_ok {G : Nat → Nat → Int} {la fr many fg : Int} (h : shinesB G la fr many fg = true) : ∀ k : Int, 0 ≤ k → k < many → ON G la (fr + k) = decide (fg / 2 ^ k.toNat % 2 = 1) := fun k a b => eq_of_beq ((allN_iff _).mp h k a (by omega))
abbrev rm_A_rhythms : Room := { frames := 12, cells := 2156, slots := 253022, locals := 587 }
def R0 : ST := ([1, 0, 0, 0, 0], [[2], [], [], [], [], [], [], [], [], [], [], [], [], []])
def R1 : ST := ([2, 0, 0, 0, 0], [[2, 3], [], [], [], [], [], [], [], [], [], [], [], [], []])
def R2 : ST := ([0, 1, 0, 0, 0], [[2, 3], [2, 3], [2], [5], [], [], [], [], [], [], [], [], [], []])
def R3 : ST := ([0, 2, 0, 0, 0], [[2, 3, 2, 3], [2, 3, 0, 0, 0, 0, 2, 3, 2, 3], [2, 4], [5, 10], [], [], [], [], [], [], [], [], [], []])
def R4 : ST := ([0, 3, 0, 0, 0], [[3, 2, 2, 3], [2, 3, 0, 0, 0, 0, 2, 3, 2, 3, 0, 0, 3, 2], [2, 4, 2], [5, 10, 5], [], [], [], [], [], [], [], [], [], []])
def R5 : ST := ([0, 4, 0, 0, 0], [[1, 1, 1, 1, 1, 1], [2, 3, 0, 0, 0, 0, 2, 3, 2, 3, 0, 0, 3, 2, 0, 0, 0, 0, 1, 1, 1, 1, 1, 1], [2, 4, 2, 6], [5, 10, 5, 6], [], [], [], [], [], [], [], [], [], []])
def R6 : ST := ([0, 5, 0, 0, 0], [[1, 1, 1, 1, 1, 1], [2, 3, 0, 0, 0, 0, 2, 3, 2, 3, 0, 0, 3, 2, 0, 0, 0, 0, 1, 1, 1, 1, 1, 1, 1, 1], [2, 4, 2, 6, 2], [5, 10, 5, 6, 2], [], [], [], [], [], [], [], [], [], []])
def R7 : ST := ([0, 6, 0, 0, 0], [[2, 3, 1, 1, 1, 1], [2, 3, 0, 0, 0, 0, 2, 3, 2, 3, 0, 0, 3, 2, 0, 0, 0, 0, 1, 1, 1, 1, 1, 1, 1, 1, 0, 0, 0, 0, 2, 3, 1, 1], [2, 4, 2, 6, 2, 4], [5, 10, 5, 6, 2, 7], [], [], [], [], [], [], [], [], [], []])
def R8 : ST := ([0, 7, 0, 0, 0], [[1, 1, 2, 3, 1, 1], [2, 3, 0, 0, 0, 0, 2, 3, 2, 3, 0, 0, 3, 2, 0, 0, 0, 0, 1, 1, 1, 1, 1, 1, 1, 1, 0, 0, 0, 0, 2, 3, 1, 1, 0, 0, 1, 1, 2, 3], [2, 4, 2, 6, 2, 4, 4], [5, 10, 5, 6, 2, 7, 7], [], [], [], [], [], [], [], [], [], []])
def R9 : ST := ([0, 8, 0, 0, 0], [[2, 1, 1, 3, 1, 1], [2, 3, 0, 0, 0, 0, 2, 3, 2, 3, 0, 0, 3, 2, 0, 0, 0, 0, 1, 1, 1, 1, 1, 1, 1, 1, 0, 0, 0, 0, 2, 3, 1, 1, 0, 0, 1, 1, 2, 3, 0, 0, 2, 1, 1, 3], [2, 4, 2, 6, 2, 4, 4, 4], [5, 10, 5, 6, 2, 7, 7, 7], [], [], [], [], [], [], [], [], [], []])
def R10 : ST := ([0, 9, 0, 0, 0], [[1, 2, 3, 4, 5, 6], [2, 3, 0, 0, 0, 0, 2, 3, 2, 3, 0, 0, 3, 2, 0, 0, 0, 0, 1, 1, 1, 1, 1, 1, 1, 1, 0, 0, 0, 0, 2, 3, 1, 1, 0, 0, 1, 1, 2, 3, 0, 0, 2, 1, 1, 3, 0, 0, 1, 2, 3, 4, 5, 6], [2, 4, 2, 6, 2, 4, 4, 4, 6], [5, 10, 5, 6, 2, 7, 7, 7, 21], [], [], [], [], [], [], [], [], [], []])
def R11 : ST := ([0, 10, 0, 0, 0], [[3, 4, 5, 6, 1, 2], [2, 3, 0, 0, 0, 0, 2, 3, 2, 3, 0, 0, 3, 2, 0, 0, 0, 0, 1, 1, 1, 1, 1, 1, 1, 1, 0, 0, 0, 0, 2, 3, 1, 1, 0, 0, 1, 1, 2, 3, 0, 0, 2, 1, 1, 3, 0, 0, 1, 2, 3, 4, 5, 6, 3, 4, 5, 6, 1, 2], [2, 4, 2, 6, 2, 4, 4, 4, 6, 6], [5, 10, 5, 6, 2, 7, 7, 7, 21, 21], [], [], [], [], [], [], [], [], [], []])
def R12 : ST := ([0, 11, 0, 0, 0], [[1, 2, 3, 4, 6, 5], [2, 3, 0, 0, 0, 0, 2, 3, 2, 3, 0, 0, 3, 2, 0, 0, 0, 0, 1, 1, 1, 1, 1, 1, 1, 1, 0, 0, 0, 0, 2, 3, 1, 1, 0, 0, 1, 1, 2, 3, 0, 0, 2, 1, 1, 3, 0, 0, 1, 2, 3, 4, 5, 6, 3, 4, 5, 6, 1, 2, 1, 2, 3, 4, 6, 5], [2, 4, 2, 6, 2, 4, 4, 4, 6, 6, 6], [5, 10, 5, 6, 2, 7, 7, 7, 21, 21, 21], [], [], [], [], [], [], [], [], [], []])
def R13 : ST := ([0, 12, 0, 0, 0], [[9, 9, 1, 9, 9, 9], [2, 3, 0, 0, 0, 0, 2, 3, 2, 3, 0, 0, 3, 2, 0, 0, 0, 0, 1, 1, 1, 1, 1, 1, 1, 1, 0, 0, 0, 0, 2, 3, 1, 1, 0, 0, 1, 1, 2, 3, 0, 0, 2, 1, 1, 3, 0, 0, 1, 2, 3, 4, 5, 6, 3, 4, 5, 6, 1, 2, 1, 2, 3, 4, 6, 5, 9, 9, 1, 9, 9, 9], [2, 4, 2, 6, 2, 4, 4, 4, 6, 6, 6, 6], [5, 10, 5, 6, 2, 7, 7, 7, 21, 21, 21, 46], [], [], [], [], [], [], [], [], [], []])
def R14 : ST := ([0, 13, 0, 0, 0], [[2, 3, 2, 3, 2, 3], [2, 3, 0, 0, 0, 0, 2, 3, 2, 3, 0, 0, 3, 2, 0, 0, 0, 0, 1, 1, 1, 1, 1, 1, 1, 1, 0, 0, 0, 0, 2, 3, 1, 1, 0, 0, 1, 1, 2, 3, 0, 0, 2, 1, 1, 3, 0, 0, 1, 2, 3, 4, 5, 6, 3, 4, 5, 6, 1, 2, 1, 2, 3, 4, 6, 5, 9, 9, 1, 9, 9, 9, 2, 3, 2, 3, 2, 3], [2, 4, 2, 6, 2, 4, 4, 4, 6, 6, 6, 6, 6], [5, 10, 5, 6, 2, 7, 7, 7, 21, 21, 21, 46, 15], [], [], [], [], [], [], [], [], [], []])
def R15 : ST := ([0, 14, 0, 0, 0], [[1, 1, 1, 1, 2, 3], [2, 3, 0, 0, 0, 0, 2, 3, 2, 3, 0, 0, 3, 2, 0, 0, 0, 0, 1, 1, 1, 1, 1, 1, 1, 1, 0, 0, 0, 0, 2, 3, 1, 1, 0, 0, 1, 1, 2, 3, 0, 0, 2, 1, 1, 3, 0, 0, 1, 2, 3, 4, 5, 6, 3, 4, 5, 6, 1, 2, 1, 2, 3, 4, 6, 5, 9, 9, 1, 9, 9, 9, 2, 3, 2, 3, 2, 3, 1, 1, 1, 1], [2, 4, 2, 6, 2, 4, 4, 4, 6, 6, 6, 6, 6, 4], [5, 10, 5, 6, 2, 7, 7, 7, 21, 21, 21, 46, 15, 4], [], [], [], [], [], [], [], [], [], []])
def R16 : ST := ([1, 14, 0, 0, 0], [[2, 1, 1, 1, 2, 3], [2, 3, 0, 0, 0, 0, 2, 3, 2, 3, 0, 0, 3, 2, 0, 0, 0, 0, 1, 1, 1, 1, 1, 1, 1, 1, 0, 0, 0, 0, 2, 3, 1, 1, 0, 0, 1, 1, 2, 3, 0, 0, 2, 1, 1, 3, 0, 0, 1, 2, 3, 4, 5, 6, 3, 4, 5, 6, 1, 2, 1, 2, 3, 4, 6, 5, 9, 9, 1, 9, 9, 9, 2, 3, 2, 3, 2, 3, 1, 1, 1, 1], [2, 4, 2, 6, 2, 4, 4, 4, 6, 6, 6, 6, 6, 4], [5, 10, 5, 6, 2, 7, 7, 7, 21, 21, 21, 46, 15, 4], [], [], [], [], [], [], [], [], [], []])
def R17 : ST := ([2, 14, 0, 0, 0], [[2, 3, 1, 1, 2, 3], [2, 3, 0, 0, 0, 0, 2, 3, 2, 3, 0, 0, 3, 2, 0, 0, 0, 0, 1, 1, 1, 1, 1, 1, 1, 1, 0, 0, 0, 0, 2, 3, 1, 1, 0, 0, 1, 1, 2, 3, 0, 0, 2, 1, 1, 3, 0, 0, 1, 2, 3, 4, 5, 6, 3, 4, 5, 6, 1, 2, 1, 2, 3, 4, 6, 5, 9, 9, 1, 9, 9, 9, 2, 3, 2, 3, 2, 3, 1, 1, 1, 1], [2, 4, 2, 6, 2, 4, 4, 4, 6, 6, 6, 6, 6, 4], [5, 10, 5, 6, 2, 7, 7, 7, 21, 21, 21, 46, 15, 4], [], [], [], [], [], [], [], [], [], []])
def R18 : ST := ([3, 14, 0, 0, 0], [[2, 3, 4, 1, 2, 3], [2, 3, 0, 0, 0, 0, 2, 3, 2, 3, 0, 0, 3, 2, 0, 0, 0, 0, 1, 1, 1, 1, 1, 1, 1, 1, 0, 0, 0, 0, 2, 3, 1, 1, 0, 0, 1, 1, 2, 3, 0, 0, 2, 1, 1, 3, 0, 0, 1, 2, 3, 4, 5, 6, 3, 4, 5, 6, 1, 2, 1, 2, 3, 4, 6, 5, 9, 9, 1, 9, 9, 9, 2, 3, 2, 3, 2, 3, 1, 1, 1, 1], [2, 4, 2, 6, 2, 4, 4, 4, 6, 6, 6, 6, 6, 4], [5, 10, 5, 6, 2, 7, 7, 7, 21, 21, 21, 46, 15, 4], [], [], [], [], [], [], [], [], [], []])
def R19 : ST := ([4, 14, 0, 0, 0], [[2, 3, 4, 5, 2, 3], [2, 3, 0, 0, 0, 0, 2, 3, 2, 3, 0, 0, 3, 2, 0, 0, 0, 0, 1, 1, 1, 1, 1, 1, 1, 1, 0, 0, 0, 0, 2, 3, 1, 1, 0, 0, 1, 1, 2, 3, 0, 0, 2, 1, 1, 3, 0, 0, 1, 2, 3, 4, 5, 6, 3, 4, 5, 6, 1, 2, 1, 2, 3, 4, 6, 5, 9, 9, 1, 9, 9, 9, 2, 3, 2, 3, 2, 3, 1, 1, 1, 1], [2, 4, 2, 6, 2, 4, 4, 4, 6, 6, 6, 6, 6, 4], [5, 10, 5, 6, 2, 7, 7, 7, 21, 21, 21, 46, 15, 4], [], [], [], [], [], [], [], [], [], []])
def R20 : ST := ([5, 14, 0, 0, 0], [[2, 3, 4, 5, 6, 3], [2, 3, 0, 0, 0, 0, 2, 3, 2, 3, 0, 0, 3, 2, 0, 0, 0, 0, 1, 1, 1, 1, 1, 1, 1, 1, 0, 0, 0, 0, 2, 3, 1, 1, 0, 0, 1, 1, 2, 3, 0, 0, 2, 1, 1, 3, 0, 0, 1, 2, 3, 4, 5, 6, 3, 4, 5, 6, 1, 2, 1, 2, 3, 4, 6, 5, 9, 9, 1, 9, 9, 9, 2, 3, 2, 3, 2, 3, 1, 1, 1, 1], [2, 4, 2, 6, 2, 4, 4, 4, 6, 6, 6, 6, 6, 4], [5, 10, 5, 6, 2, 7, 7, 7, 21, 21, 21, 46, 15, 4], [], [], [], [], [], [], [], [], [], []])
def R21 : ST := ([6, 14, 0, 0, 0], [[2, 3, 4, 5, 6, 7], [2, 3, 0, 0, 0, 0, 2, 3, 2, 3, 0, 0, 3, 2, 0, 0, 0, 0, 1, 1, 1, 1, 1, 1, 1, 1, 0, 0, 0, 0, 2, 3, 1, 1, 0, 0, 1, 1, 2, 3, 0, 0, 2, 1, 1, 3, 0, 0, 1, 2, 3, 4, 5, 6, 3, 4, 5, 6, 1, 2, 1, 2, 3, 4, 6, 5, 9, 9, 1, 9, 9, 9, 2, 3, 2, 3, 2, 3, 1, 1, 1, 1], [2, 4, 2, 6, 2, 4, 4, 4, 6, 6, 6, 6, 6, 4], [5, 10, 5, 6, 2, 7, 7, 7, 21, 21, 21, 46, 15, 4], [], [], [], [], [], [], [], [], [], []])
def R22 : ST := ([0, 15, 0, 0, 0], [[2, 3, 4, 5, 6, 7], [2, 3, 0, 0, 0, 0, 2, 3, 2, 3, 0, 0, 3, 2, 0, 0, 0, 0, 1, 1, 1, 1, 1, 1, 1, 1, 0, 0, 0, 0, 2, 3, 1, 1, 0, 0, 1, 1, 2, 3, 0, 0, 2, 1, 1, 3, 0, 0, 1, 2, 3, 4, 5, 6, 3, 4, 5, 6, 1, 2, 1, 2, 3, 4, 6, 5, 9, 9, 1, 9, 9, 9, 2, 3, 2, 3, 2, 3, 1, 1, 1, 1, 0, 0, 2, 3, 4, 5, 6, 7], [2, 4, 2, 6, 2, 4, 4, 4, 6, 6, 6, 6, 6, 4, 6], [5, 10, 5, 6, 2, 7, 7, 7, 21, 21, 21, 46, 15, 4, 27], [], [], [], [], [], [], [], [], [], []])
def R23 : ST := ([1, 15, 0, 0, 0], [[1, 3, 4, 5, 6, 7], [2, 3, 0, 0, 0, 0, 2, 3, 2, 3, 0, 0, 3, 2, 0, 0, 0, 0, 1, 1, 1, 1, 1, 1, 1, 1, 0, 0, 0, 0, 2, 3, 1, 1, 0, 0, 1, 1, 2, 3, 0, 0, 2, 1, 1, 3, 0, 0, 1, 2, 3, 4, 5, 6, 3, 4, 5, 6, 1, 2, 1, 2, 3, 4, 6, 5, 9, 9, 1, 9, 9, 9, 2, 3, 2, 3, 2, 3, 1, 1, 1, 1, 0, 0, 2, 3, 4, 5, 6, 7], [2, 4, 2, 6, 2, 4, 4, 4, 6, 6, 6, 6, 6, 4, 6], [5, 10, 5, 6, 2, 7, 7, 7, 21, 21, 21, 46, 15, 4, 27], [], [], [], [], [], [], [], [], [], []])
def R24 : ST := ([2, 15, 0, 0, 0], [[1, 1, 4, 5, 6, 7], [2, 3, 0, 0, 0, 0, 2, 3, 2, 3, 0, 0, 3, 2, 0, 0, 0, 0, 1, 1, 1, 1, 1, 1, 1, 1, 0, 0, 0, 0, 2, 3, 1, 1, 0, 0, 1, 1, 2, 3, 0, 0, 2, 1, 1, 3, 0, 0, 1, 2, 3, 4, 5, 6, 3, 4, 5, 6, 1, 2, 1, 2, 3, 4, 6, 5, 9, 9, 1, 9, 9, 9, 2, 3, 2, 3, 2, 3, 1, 1, 1, 1, 0, 0, 2, 3, 4, 5, 6, 7], [2, 4, 2, 6, 2, 4, 4, 4, 6, 6, 6, 6, 6, 4, 6], [5, 10, 5, 6, 2, 7, 7, 7, 21, 21, 21, 46, 15, 4, 27], [], [], [], [], [], [], [], [], [], []])
def R25 : ST := ([3, 15, 0, 0, 0], [[1, 1, 1, 5, 6, 7], [2, 3, 0, 0, 0, 0, 2, 3, 2, 3, 0, 0, 3, 2, 0, 0, 0, 0, 1, 1, 1, 1, 1, 1, 1, 1, 0, 0, 0, 0, 2, 3, 1, 1, 0, 0, 1, 1, 2, 3, 0, 0, 2, 1, 1, 3, 0, 0, 1, 2, 3, 4, 5, 6, 3, 4, 5, 6, 1, 2, 1, 2, 3, 4, 6, 5, 9, 9, 1, 9, 9, 9, 2, 3, 2, 3, 2, 3, 1, 1, 1, 1, 0, 0, 2, 3, 4, 5, 6, 7], [2, 4, 2, 6, 2, 4, 4, 4, 6, 6, 6, 6, 6, 4, 6], [5, 10, 5, 6, 2, 7, 7, 7, 21, 21, 21, 46, 15, 4, 27], [], [], [], [], [], [], [], [], [], []])
def R26 : ST := ([4, 15, 0, 0, 0], [[1, 1, 1, 1, 6, 7], [2, 3, 0, 0, 0, 0, 2, 3, 2, 3, 0, 0, 3, 2, 0, 0, 0, 0, 1, 1, 1, 1, 1, 1, 1, 1, 0, 0, 0, 0, 2, 3, 1, 1, 0, 0, 1, 1, 2, 3, 0, 0, 2, 1, 1, 3, 0, 0, 1, 2, 3, 4, 5, 6, 3, 4, 5, 6, 1, 2, 1, 2, 3, 4, 6, 5, 9, 9, 1, 9, 9, 9, 2, 3, 2, 3, 2, 3, 1, 1, 1, 1, 0, 0, 2, 3, 4, 5, 6, 7], [2, 4, 2, 6, 2, 4, 4, 4, 6, 6, 6, 6, 6, 4, 6], [5, 10, 5, 6, 2, 7, 7, 7, 21, 21, 21, 46, 15, 4, 27], [], [], [], [], [], [], [], [], [], []])
def R27 : ST := ([0, 16, 0, 0, 0], [[1, 1, 1, 1, 6, 7], [2, 3, 0, 0, 0, 0, 2, 3, 2, 3, 0, 0, 3, 2, 0, 0, 0, 0, 1, 1, 1, 1, 1, 1, 1, 1, 0, 0, 0, 0, 2, 3, 1, 1, 0, 0, 1, 1, 2, 3, 0, 0, 2, 1, 1, 3, 0, 0, 1, 2, 3, 4, 5, 6, 3, 4, 5, 6, 1, 2, 1, 2, 3, 4, 6, 5, 9, 9, 1, 9, 9, 9, 2, 3, 2, 3, 2, 3, 1, 1, 1, 1, 0, 0, 2, 3, 4, 5, 6, 7, 1, 1, 1, 1], [2, 4, 2, 6, 2, 4, 4, 4, 6, 6, 6, 6, 6, 4, 6, 4], [5, 10, 5, 6, 2, 7, 7, 7, 21, 21, 21, 46, 15, 4, 27, 4], [], [], [], [], [], [], [], [], [], []])
def R28 : ST := ([0, 17, 0, 0, 0], [[9, 9, 1, 1, 6, 7], [2, 3, 0, 0, 0, 0, 2, 3, 2, 3, 0, 0, 3, 2, 0, 0, 0, 0, 1, 1, 1, 1, 1, 1, 1, 1, 0, 0, 0, 0, 2, 3, 1, 1, 0, 0, 1, 1, 2, 3, 0, 0, 2, 1, 1, 3, 0, 0, 1, 2, 3, 4, 5, 6, 3, 4, 5, 6, 1, 2, 1, 2, 3, 4, 6, 5, 9, 9, 1, 9, 9, 9, 2, 3, 2, 3, 2, 3, 1, 1, 1, 1, 0, 0, 2, 3, 4, 5, 6, 7, 1, 1, 1, 1, 0, 0, 9, 9], [2, 4, 2, 6, 2, 4, 4, 4, 6, 6, 6, 6, 6, 4, 6, 4, 2], [5, 10, 5, 6, 2, 7, 7, 7, 21, 21, 21, 46, 15, 4, 27, 4, 18], [], [], [], [], [], [], [], [], [], []])
def R29 : ST := ([0, 18, 0, 0, 0], [[9, 9, 1, 1, 6, 7], [2, 3, 0, 0, 0, 0, 2, 3, 2, 3, 0, 0, 3, 2, 0, 0, 0, 0, 1, 1, 1, 1, 1, 1, 1, 1, 0, 0, 0, 0, 2, 3, 1, 1, 0, 0, 1, 1, 2, 3, 0, 0, 2, 1, 1, 3, 0, 0, 1, 2, 3, 4, 5, 6, 3, 4, 5, 6, 1, 2, 1, 2, 3, 4, 6, 5, 9, 9, 1, 9, 9, 9, 2, 3, 2, 3, 2, 3, 1, 1, 1, 1, 0, 0, 2, 3, 4, 5, 6, 7, 1, 1, 1, 1, 0, 0, 9, 9, 0, 0, 0, 0, 9, 9], [2, 4, 2, 6, 2, 4, 4, 4, 6, 6, 6, 6, 6, 4, 6, 4, 2, 2], [5, 10, 5, 6, 2, 7, 7, 7, 21, 21, 21, 46, 15, 4, 27, 4, 18, 18], [], [], [], [], [], [], [], [], [], []])
def R30 : ST := ([0, 19, 0, 0, 0], [[9, 9, 1, 1, 6, 7], [2, 3, 0, 0, 0, 0, 2, 3, 2, 3, 0, 0, 3, 2, 0, 0, 0, 0, 1, 1, 1, 1, 1, 1, 1, 1, 0, 0, 0, 0, 2, 3, 1, 1, 0, 0, 1, 1, 2, 3, 0, 0, 2, 1, 1, 3, 0, 0, 1, 2, 3, 4, 5, 6, 3, 4, 5, 6, 1, 2, 1, 2, 3, 4, 6, 5, 9, 9, 1, 9, 9, 9, 2, 3, 2, 3, 2, 3, 1, 1, 1, 1, 0, 0, 2, 3, 4, 5, 6, 7, 1, 1, 1, 1, 0, 0, 9, 9, 0, 0, 0, 0, 9, 9, 0, 0, 0, 0, 9, 9], [2, 4, 2, 6, 2, 4, 4, 4, 6, 6, 6, 6, 6, 4, 6, 4, 2, 2, 2], [5, 10, 5, 6, 2, 7, 7, 7, 21, 21, 21, 46, 15, 4, 27, 4, 18, 18, 18], [], [], [], [], [], [], [], [], [], []])
def R31 : ST := ([0, 20, 0, 0, 0], [[9, 9, 1, 1, 6, 7], [2, 3, 0, 0, 0, 0, 2, 3, 2, 3, 0, 0, 3, 2, 0, 0, 0, 0, 1, 1, 1, 1, 1, 1, 1, 1, 0, 0, 0, 0, 2, 3, 1, 1, 0, 0, 1, 1, 2, 3, 0, 0, 2, 1, 1, 3, 0, 0, 1, 2, 3, 4, 5, 6, 3, 4, 5, 6, 1, 2, 1, 2, 3, 4, 6, 5, 9, 9, 1, 9, 9, 9, 2, 3, 2, 3, 2, 3, 1, 1, 1, 1, 0, 0, 2, 3, 4, 5, 6, 7, 1, 1, 1, 1, 0, 0, 9, 9, 0, 0, 0, 0, 9, 9, 0, 0, 0, 0, 9, 9, 0, 0, 0, 0, 9, 9], [2, 4, 2, 6, 2, 4, 4, 4, 6, 6, 6, 6, 6, 4, 6, 4, 2, 2, 2, 2], [5, 10, 5, 6, 2, 7, 7, 7, 21, 21, 21, 46, 15, 4, 27, 4, 18, 18, 18, 18], [], [], [], [], [], [], [], [], [], []])
def R32 : ST := ([1, 20, 0, 0, 0], [[4, 9, 1, 1, 6, 7], [2, 3, 0, 0, 0, 0, 2, 3, 2, 3, 0, 0, 3, 2, 0, 0, 0, 0, 1, 1, 1, 1, 1, 1, 1, 1, 0, 0, 0, 0, 2, 3, 1, 1, 0, 0, 1, 1, 2, 3, 0, 0, 2, 1, 1, 3, 0, 0, 1, 2, 3, 4, 5, 6, 3, 4, 5, 6, 1, 2, 1, 2, 3, 4, 6, 5, 9, 9, 1, 9, 9, 9, 2, 3, 2, 3, 2, 3, 1, 1, 1, 1, 0, 0, 2, 3, 4, 5, 6, 7, 1, 1, 1, 1, 0, 0, 9, 9, 0, 0, 0, 0, 9, 9, 0, 0, 0, 0, 9, 9, 0, 0, 0, 0, 9, 9], [2, 4, 2, 6, 2, 4, 4, 4, 6, 6, 6, 6, 6, 4, 6, 4, 2, 2, 2, 2], [5, 10, 5, 6, 2, 7, 7, 7, 21, 21, 21, 46, 15, 4, 27, 4, 18, 18, 18, 18], [], [], [], [], [], [], [], [], [], []])
def R33 : ST := ([2, 20, 0, 0, 0], [[4, 4, 1, 1, 6, 7], [2, 3, 0, 0, 0, 0, 2, 3, 2, 3, 0, 0, 3, 2, 0, 0, 0, 0, 1, 1, 1, 1, 1, 1, 1, 1, 0, 0, 0, 0, 2, 3, 1, 1, 0, 0, 1, 1, 2, 3, 0, 0, 2, 1, 1, 3, 0, 0, 1, 2, 3, 4, 5, 6, 3, 4, 5, 6, 1, 2, 1, 2, 3, 4, 6, 5, 9, 9, 1, 9, 9, 9, 2, 3, 2, 3, 2, 3, 1, 1, 1, 1, 0, 0, 2, 3, 4, 5, 6, 7, 1, 1, 1, 1, 0, 0, 9, 9, 0, 0, 0, 0, 9, 9, 0, 0, 0, 0, 9, 9, 0, 0, 0, 0, 9, 9], [2, 4, 2, 6, 2, 4, 4, 4, 6, 6, 6, 6, 6, 4, 6, 4, 2, 2, 2, 2], [5, 10, 5, 6, 2, 7, 7, 7, 21, 21, 21, 46, 15, 4, 27, 4, 18, 18, 18, 18], [], [], [], [], [], [], [], [], [], []])
def R34 : ST := ([3, 20, 0, 0, 0], [[4, 4, 4, 1, 6, 7], [2, 3, 0, 0, 0, 0, 2, 3, 2, 3, 0, 0, 3, 2, 0, 0, 0, 0, 1, 1, 1, 1, 1, 1, 1, 1, 0, 0, 0, 0, 2, 3, 1, 1, 0, 0, 1, 1, 2, 3, 0, 0, 2, 1, 1, 3, 0, 0, 1, 2, 3, 4, 5, 6, 3, 4, 5, 6, 1, 2, 1, 2, 3, 4, 6, 5, 9, 9, 1, 9, 9, 9, 2, 3, 2, 3, 2, 3, 1, 1, 1, 1, 0, 0, 2, 3, 4, 5, 6, 7, 1, 1, 1, 1, 0, 0, 9, 9, 0, 0, 0, 0, 9, 9, 0, 0, 0, 0, 9, 9, 0, 0, 0, 0, 9, 9], [2, 4, 2, 6, 2, 4, 4, 4, 6, 6, 6, 6, 6, 4, 6, 4, 2, 2, 2, 2], [5, 10, 5, 6, 2, 7, 7, 7, 21, 21, 21, 46, 15, 4, 27, 4, 18, 18, 18, 18], [], [], [], [], [], [], [], [], [], []])
set_option maxRecDepth 100000 in
set_option maxHeartbeats 8000000 in
theorem sR_0 (l : Launch) (ε : EV) (hst : l.stackTraces = false)  (hnx : ∀ x : Nat, SEG l ε yL_rhythms cL_rhythms 2 rm_A_rhythms (fun v z => v = some (.int (iv 1))) 54 857 89780 [(0, .ref x)] (fun z => HC ε x R0 z)) : SEG l ε yL_rhythms cL_rhythms 2 rm_A_rhythms (fun v z => v = some (.int (iv 1))) 0 0 0 [] (fun _ => True) := by
  intro p9 e9 s9 m9 a9 bl9 me9 c9 Q9 hC hE hQ H locs ls w9 hH hP hD hS hl
  have hx := hC.1
  have hb := hC.2.1
  have hK := hE.K
  refine z_new (pc := 0) (ix := 8) (iy := 95) hC hE hS hl.1 m_0_0 m_0_13 dL_rhythms_0 dL_rhythms_3 dL_rhythms_4 ⟨by decide, by decide⟩ ⟨(Nat.le_of_ble_eq_true rfl), (Nat.le_of_ble_eq_true rfl)⟩ (fun x H locs w1 hH hP hD hS => ?_)
  obtain ⟨fo, hob⟩ := hH.ob
  refine lv_astore_n (lv' := [(0, .ref x)]) (pc := 7) hx hb dL_rhythms_7 rfl hl (by decide) rfl (fun ls hl => ?_)
  refine lv_aload_n (pc := 8) hx hb dL_rhythms_8 rfl (lv_at hl 0 rfl) ?_
  refine lv_iconst (pc := 9) (v := iv 0) hx hb dL_rhythms_9 rfl ?_
  refine lv_iconst (pc := 10) (v := iv 0) hx hb dL_rhythms_10 rfl ?_
  refine lv_iconst (pc := 11) (v := iv 0) hx hb dL_rhythms_11 rfl ?_
  refine c_callS (pc := 12) (y := yL_refuses) (As := [.ref x, .int (iv 0), .int (iv 0), .int (iv 0)]) (rest := []) hC hE hP hD hS hl.1 (A_refuses l ε hst hH 0 0 0 (by decide +kernel) (by decide +kernel) (by decide +kernel) (by decide +kernel)) m_1_19 m_1_20 m_0_5 m_1_21 hd_yL_refuses rfl ⟨⟨by decide, by decide⟩, (Nat.le_of_ble_eq_true rfl), (Nat.le_of_ble_eq_true rfl)⟩ (Nat.le_of_ble_eq_true rfl) rfl dL_rhythms_12 kxN (fun v w_1 H locs hq hP hD hS => ?_)
  refine W.widen (k := 850) (n := 86668) (Nat.le_of_ble_eq_true rfl) (Nat.le_of_ble_eq_true rfl) ?_
  rw [hq.2] at hP hD
  rw [hq.1]
  dsimp only [Option.toList, List.cons_append, List.nil_append]
  refine r_if_eq (pc := 15) (a := 1) hx hb dL_rhythms_15 (tgt := 291) (by decide) ⟨by omega, by omega⟩ (fun c_15 => ?_) (fun c_15 => ?_)
  · exact absurd c_15 (by decide)
  · have c_15_ := c_15
    refine lv_aload_n (pc := 18) hx hb dL_rhythms_18 rfl (lv_at hl 0 rfl) ?_
    refine c_callV (pc := 19) (y := yX4_notices) (As := []) (rest := []) hC hE hP hD hS hl.1 (K_notices l ε hst hH  ) m_1_24 m_2_0 m_2_1 m_0_2 m_2_2 hob rfl hd_yX4_notices rfl ⟨⟨by decide, by decide⟩, (Nat.le_of_ble_eq_true rfl), (Nat.le_of_ble_eq_true rfl)⟩ (Nat.le_of_ble_eq_true rfl) rfl dL_rhythms_19 kxN (fun v w_2 H locs hq hP hD hS => ?_)
    refine W.widen (k := 850) (n := 86668) (Nat.le_of_ble_eq_true rfl) (Nat.le_of_ble_eq_true rfl) ?_
    rw [hq.2] at hP hD
    rw [hq.1]
    dsimp only [Option.toList, List.cons_append, List.nil_append]
    rw [show nS S0 3 = 0 by decide +kernel]
    refine r_if_ne (pc := 22) (a := 0) hx hb dL_rhythms_22 (tgt := 291) (by decide) ⟨by omega, by omega⟩ (fun c_22 => ?_) (fun c_22 => ?_)
    · exact absurd c_22 (by decide)
    · have c_22_ := c_22
      refine lv_aload_n (pc := 25) hx hb dL_rhythms_25 rfl (lv_at hl 0 rfl) ?_
      refine c_callV (pc := 26) (y := yX4_clashes) (As := []) (rest := []) hC hE hP hD hS hl.1 (K_clashes l ε hst hH  ) m_2_8 m_2_9 m_2_10 m_0_2 m_2_11 hob rfl hd_yX4_clashes rfl ⟨⟨by decide, by decide⟩, (Nat.le_of_ble_eq_true rfl), (Nat.le_of_ble_eq_true rfl)⟩ (Nat.le_of_ble_eq_true rfl) rfl dL_rhythms_26 kxN (fun v w_3 H locs hq hP hD hS => ?_)
      refine W.widen (k := 850) (n := 86668) (Nat.le_of_ble_eq_true rfl) (Nat.le_of_ble_eq_true rfl) ?_
      rw [hq.2] at hP hD
      rw [hq.1]
      dsimp only [Option.toList, List.cons_append, List.nil_append]
      rw [show clcB (gS S0) (nS S0 2).toNat = 0 by decide +kernel]
      refine r_if_ne (pc := 29) (a := 0) hx hb dL_rhythms_29 (tgt := 291) (by decide) ⟨by omega, by omega⟩ (fun c_29 => ?_) (fun c_29 => ?_)
      · exact absurd c_29 (by decide)
      · have c_29_ := c_29
        refine lv_aload_n (pc := 32) hx hb dL_rhythms_32 rfl (lv_at hl 0 rfl) ?_
        refine lv_iconst (pc := 33) (v := iv 1) hx hb dL_rhythms_33 rfl ?_
        refine lv_iconst (pc := 34) (v := iv 0) hx hb dL_rhythms_34 rfl ?_
        refine lv_iconst (pc := 35) (v := iv 0) hx hb dL_rhythms_35 rfl ?_
        refine lv_iconst (pc := 36) (v := iv 0) hx hb dL_rhythms_36 rfl ?_
        refine c_callSW (pc := 37) (y := yL_act) (As := [.ref x, .int (iv 1), .int (iv 0), .int (iv 0), .int (iv 0)]) (rest := []) hC hE hP hD hS hl.1 (A_pattern_is l ε hst hH 0 0 0 (by decide) (by decide) (by decide) (by decide +kernel)) m_4_18 m_4_19 m_0_5 m_4_20 hd_yL_act rfl ⟨⟨by decide, by decide⟩, (Nat.le_of_ble_eq_true rfl), (Nat.le_of_ble_eq_true rfl)⟩ (Nat.le_of_ble_eq_true rfl) rfl dL_rhythms_37 kxN (fun v w_4 H locs hq hP hD hS => ?_)
        refine W.widen (k := 855) (n := 89768) (Nat.le_of_ble_eq_true rfl) (Nat.le_of_ble_eq_true rfl) ?_
        rw [hq.2] at hP hD
        rw [hq.1]
        dsimp only [Option.toList, List.cons_append, List.nil_append]
        refine lv_bipush (pc := 40) (v := iv (-73)) hx hb dL_rhythms_40 (by decide) ?_
        refine r_icmp_ne (pc := 42) (a := (-73)) (b := (-73)) hx hb dL_rhythms_42 (tgt := 291) (by decide) ⟨by omega, by omega⟩ ⟨by omega, by omega⟩ (fun c_42 => ?_) (fun c_42 => ?_)
        · exact absurd c_42 (by decide)
        · have c_42_ := c_42
          refine lv_aload_n (pc := 45) hx hb dL_rhythms_45 rfl (lv_at hl 0 rfl) ?_
          refine lv_iconst (pc := 46) (v := iv 2) hx hb dL_rhythms_46 rfl ?_
          refine c_callV (pc := 47) (y := yX4_phase) (As := [.int (iv 2)]) (rest := []) hC hE hP hD hS hl.1 (K_phase l ε hst hH 2 (by decide +kernel) (by decide +kernel)) m_4_24 m_5_0 m_5_1 m_0_2 m_5_2 hob rfl hd_yX4_phase rfl ⟨⟨by decide, by decide⟩, (Nat.le_of_ble_eq_true rfl), (Nat.le_of_ble_eq_true rfl)⟩ (Nat.le_of_ble_eq_true rfl) rfl dL_rhythms_47 kxN (fun v w_5 H locs hq hP hD hS => ?_)
          refine W.widen (k := 857) (n := 89780) (Nat.le_of_ble_eq_true rfl) (Nat.le_of_ble_eq_true rfl) ?_
          have hH : HC ε x R0 w_5 := hq.2.cv (S := R0) (by decide +kernel)
          obtain ⟨fo, hob⟩ := hH.ob
          rw [hq.1]
          dsimp only [Option.toList, List.cons_append, List.nil_append]
          rw [show nS S0 0 + 1 = 1 by decide +kernel]
          refine lv_iconst (pc := 50) (v := iv 1) hx hb dL_rhythms_50 rfl ?_
          refine r_icmp_ne (pc := 51) (a := 1) (b := 1) hx hb dL_rhythms_51 (tgt := 291) (by decide) ⟨by omega, by omega⟩ ⟨by omega, by omega⟩ (fun c_51 => ?_) (fun c_51 => ?_)
          · exact absurd c_51 (by decide)
          · have c_51_ := c_51
            refine W.widen (k := 857) (n := 89780) (Nat.le_of_ble_eq_true rfl) (Nat.le_of_ble_eq_true rfl) ?_
            exact (hnx x) _ _ _ _ _ _ _ _ _ hC hE hQ _ _ _ _ hH hP hD hS (lv_sub hl [0] rfl)
set_option maxRecDepth 100000 in
set_option maxHeartbeats 8000000 in
theorem sR_1 (l : Launch) (ε : EV) (hst : l.stackTraces = false) {x : Nat}  (hnx : SEG l ε yL_rhythms cL_rhythms 2 rm_A_rhythms (fun v z => v = some (.int (iv 1))) 107 887 102240 [(0, .ref x)] (fun z => HC ε x R3 z)) : SEG l ε yL_rhythms cL_rhythms 2 rm_A_rhythms (fun v z => v = some (.int (iv 1))) 54 857 89780 [(0, .ref x)] (fun z => HC ε x R0 z) := by
  intro p9 e9 s9 m9 a9 bl9 me9 c9 Q9 hC hE hQ H locs ls w9 hH hP hD hS hl
  have hx := hC.1
  have hb := hC.2.1
  have hK := hE.K
  obtain ⟨fo, hob⟩ := hH.ob
  refine lv_aload_n (pc := 54) hx hb dL_rhythms_54 rfl (lv_at hl 0 rfl) ?_
  refine lv_iconst (pc := 55) (v := iv 1) hx hb dL_rhythms_55 rfl ?_
  refine lv_iconst (pc := 56) (v := iv 0) hx hb dL_rhythms_56 rfl ?_
  refine lv_iconst (pc := 57) (v := iv 0) hx hb dL_rhythms_57 rfl ?_
  refine lv_iconst (pc := 58) (v := iv 0) hx hb dL_rhythms_58 rfl ?_
  refine c_callSW (pc := 59) (y := yL_act) (As := [.ref x, .int (iv 1), .int (iv 0), .int (iv 0), .int (iv 0)]) (rest := []) hC hE hP hD hS hl.1 (A_pattern_is l ε hst hH 0 0 0 (by decide) (by decide) (by decide) (by decide +kernel)) m_4_18 m_4_19 m_0_5 m_4_20 hd_yL_act rfl ⟨⟨by decide, by decide⟩, (Nat.le_of_ble_eq_true rfl), (Nat.le_of_ble_eq_true rfl)⟩ (Nat.le_of_ble_eq_true rfl) rfl dL_rhythms_59 kxN (fun v w_1 H locs hq hP hD hS => ?_)
  refine W.widen (k := 862) (n := 92880) (Nat.le_of_ble_eq_true rfl) (Nat.le_of_ble_eq_true rfl) ?_
  rw [hq.2] at hP hD
  rw [hq.1]
  dsimp only [Option.toList, List.cons_append, List.nil_append]
  refine lv_bipush (pc := 62) (v := iv (-73)) hx hb dL_rhythms_62 (by decide) ?_
  refine r_icmp_ne (pc := 64) (a := (-73)) (b := (-73)) hx hb dL_rhythms_64 (tgt := 291) (by decide) ⟨by omega, by omega⟩ ⟨by omega, by omega⟩ (fun c_64 => ?_) (fun c_64 => ?_)
  · exact absurd c_64 (by decide)
  · have c_64_ := c_64
    refine lv_aload_n (pc := 67) hx hb dL_rhythms_67 rfl (lv_at hl 0 rfl) ?_
    refine lv_iconst (pc := 68) (v := iv 3) hx hb dL_rhythms_68 rfl ?_
    refine c_callV (pc := 69) (y := yX4_phase) (As := [.int (iv 3)]) (rest := []) hC hE hP hD hS hl.1 (K_phase l ε hst hH 3 (by decide +kernel) (by decide +kernel)) m_4_24 m_5_0 m_5_1 m_0_2 m_5_2 hob rfl hd_yX4_phase rfl ⟨⟨by decide, by decide⟩, (Nat.le_of_ble_eq_true rfl), (Nat.le_of_ble_eq_true rfl)⟩ (Nat.le_of_ble_eq_true rfl) rfl dL_rhythms_69 kxN (fun v w_2 H locs hq hP hD hS => ?_)
    refine W.widen (k := 864) (n := 92892) (Nat.le_of_ble_eq_true rfl) (Nat.le_of_ble_eq_true rfl) ?_
    have hH : HC ε x R1 w_2 := hq.2.cv (S := R1) (by decide +kernel)
    obtain ⟨fo, hob⟩ := hH.ob
    rw [hq.1]
    dsimp only [Option.toList, List.cons_append, List.nil_append]
    rw [show nS R0 0 + 1 = 2 by decide +kernel]
    refine lv_iconst (pc := 72) (v := iv 2) hx hb dL_rhythms_72 rfl ?_
    refine r_icmp_ne (pc := 73) (a := 2) (b := 2) hx hb dL_rhythms_73 (tgt := 291) (by decide) ⟨by omega, by omega⟩ ⟨by omega, by omega⟩ (fun c_73 => ?_) (fun c_73 => ?_)
    · exact absurd c_73 (by decide)
    · have c_73_ := c_73
      refine lv_aload_n (pc := 76) hx hb dL_rhythms_76 rfl (lv_at hl 0 rfl) ?_
      refine c_callV (pc := 77) (y := yX4_pattern) (As := []) (rest := []) hC hE hP hD hS hl.1 (K_pattern l ε hst hH  (by decide +kernel) (by decide +kernel)) m_5_10 m_5_11 m_5_12 m_0_2 m_5_13 hob rfl hd_yX4_pattern rfl ⟨⟨by decide, by decide⟩, (Nat.le_of_ble_eq_true rfl), (Nat.le_of_ble_eq_true rfl)⟩ (Nat.le_of_ble_eq_true rfl) rfl dL_rhythms_77 kxN (fun v w_3 H locs hq hP hD hS => ?_)
      refine W.widen (k := 869) (n := 95992) (Nat.le_of_ble_eq_true rfl) (Nat.le_of_ble_eq_true rfl) ?_
      have hH : HC ε x R2 w_3 := hq.2.cv (S := R2) (by decide +kernel)
      obtain ⟨fo, hob⟩ := hH.ob
      rw [hq.1]
      dsimp only [Option.toList, List.cons_append, List.nil_append]
      rw [show nS R1 1 = 0 by decide +kernel]
      refine r_if_ne (pc := 80) (a := 0) hx hb dL_rhythms_80 (tgt := 291) (by decide) ⟨by omega, by omega⟩ (fun c_80 => ?_) (fun c_80 => ?_)
      · exact absurd c_80 (by decide)
      · have c_80_ := c_80
        refine lv_aload_n (pc := 83) hx hb dL_rhythms_83 rfl (lv_at hl 0 rfl) ?_
        refine lv_iconst (pc := 84) (v := iv 1) hx hb dL_rhythms_84 rfl ?_
        refine lv_iconst (pc := 85) (v := iv 0) hx hb dL_rhythms_85 rfl ?_
        refine lv_iconst (pc := 86) (v := iv 0) hx hb dL_rhythms_86 rfl ?_
        refine lv_iconst (pc := 87) (v := iv 0) hx hb dL_rhythms_87 rfl ?_
        refine c_callSW (pc := 88) (y := yL_act) (As := [.ref x, .int (iv 1), .int (iv 0), .int (iv 0), .int (iv 0)]) (rest := []) hC hE hP hD hS hl.1 (A_pattern_is l ε hst hH 0 0 0 (by decide) (by decide) (by decide) (by decide +kernel)) m_4_18 m_4_19 m_0_5 m_4_20 hd_yL_act rfl ⟨⟨by decide, by decide⟩, (Nat.le_of_ble_eq_true rfl), (Nat.le_of_ble_eq_true rfl)⟩ (Nat.le_of_ble_eq_true rfl) rfl dL_rhythms_88 kxN (fun v w_4 H locs hq hP hD hS => ?_)
        refine W.widen (k := 874) (n := 99092) (Nat.le_of_ble_eq_true rfl) (Nat.le_of_ble_eq_true rfl) ?_
        rw [hq.2] at hP hD
        rw [hq.1]
        dsimp only [Option.toList, List.cons_append, List.nil_append]
        refine lv_bipush (pc := 91) (v := iv (-73)) hx hb dL_rhythms_91 (by decide) ?_
        refine r_icmp_ne (pc := 93) (a := (-73)) (b := (-73)) hx hb dL_rhythms_93 (tgt := 291) (by decide) ⟨by omega, by omega⟩ ⟨by omega, by omega⟩ (fun c_93 => ?_) (fun c_93 => ?_)
        · exact absurd c_93 (by decide)
        · have c_93_ := c_93
          refine lv_aload_n (pc := 96) hx hb dL_rhythms_96 rfl (lv_at hl 0 rfl) ?_
          refine lv_sipush (pc := 97) (v := iv 2323) hx hb dL_rhythms_97 (by decide) ?_
          refine c_callS (pc := 100) (y := yL_pattern) (As := [.ref x, .int (iv 2323)]) (rest := []) hC hE hP hD hS hl.1 (A_pat4 l ε hst hH (by decide +kernel) (by decide +kernel) 2323 2 3 2 3 (by decide +kernel) (by decide +kernel) (by decide +kernel) (by decide +kernel) (by decide +kernel)) m_16_6 m_16_7 m_0_5 m_16_8 hd_yL_pattern rfl ⟨⟨by decide, by decide⟩, (Nat.le_of_ble_eq_true rfl), (Nat.le_of_ble_eq_true rfl)⟩ (Nat.le_of_ble_eq_true rfl) rfl dL_rhythms_100 kxN (fun v w_5 H locs hq hP hD hS => ?_)
          refine W.widen (k := 887) (n := 102240) (Nat.le_of_ble_eq_true rfl) (Nat.le_of_ble_eq_true rfl) ?_
          have hH : HC ε x R3 w_5 := hq.2.cv (S := R3) (by decide +kernel)
          obtain ⟨fo, hob⟩ := hH.ob
          rw [hq.1]
          dsimp only [Option.toList, List.cons_append, List.nil_append]
          rw [show nS R2 1 = 1 by decide +kernel]
          refine lv_iconst (pc := 103) (v := iv 1) hx hb dL_rhythms_103 rfl ?_
          refine r_icmp_ne (pc := 104) (a := 1) (b := 1) hx hb dL_rhythms_104 (tgt := 291) (by decide) ⟨by omega, by omega⟩ ⟨by omega, by omega⟩ (fun c_104 => ?_) (fun c_104 => ?_)
          · exact absurd c_104 (by decide)
          · have c_104_ := c_104
            refine W.widen (k := 887) (n := 102240) (Nat.le_of_ble_eq_true rfl) (Nat.le_of_ble_eq_true rfl) ?_
            exact hnx _ _ _ _ _ _ _ _ _ hC hE hQ _ _ _ _ hH hP hD hS (lv_sub hl [0] rfl)
set_option maxRecDepth 100000 in
set_option maxHeartbeats 8000000 in
theorem sR_2 (l : Launch) (ε : EV) (hst : l.stackTraces = false) {x : Nat}  (hnx : SEG l ε yL_rhythms cL_rhythms 2 rm_A_rhythms (fun v z => v = some (.int (iv 1))) 160 948 117956 [(0, .ref x)] (fun z => HC ε x R8 z)) : SEG l ε yL_rhythms cL_rhythms 2 rm_A_rhythms (fun v z => v = some (.int (iv 1))) 107 887 102240 [(0, .ref x)] (fun z => HC ε x R3 z) := by
  intro p9 e9 s9 m9 a9 bl9 me9 c9 Q9 hC hE hQ H locs ls w9 hH hP hD hS hl
  have hx := hC.1
  have hb := hC.2.1
  have hK := hE.K
  obtain ⟨fo, hob⟩ := hH.ob
  refine lv_aload_n (pc := 107) hx hb dL_rhythms_107 rfl (lv_at hl 0 rfl) ?_
  refine lv_bipush (pc := 108) (v := iv 32) hx hb dL_rhythms_108 (by decide) ?_
  refine c_callS (pc := 110) (y := yL_pattern) (As := [.ref x, .int (iv 32)]) (rest := []) hC hE hP hD hS hl.1 (A_pat2 l ε hst hH (by decide +kernel) (by decide +kernel) 32 3 2 (by decide +kernel) (by decide +kernel) (by decide +kernel)) m_16_6 m_16_7 m_0_5 m_16_8 hd_yL_pattern rfl ⟨⟨by decide, by decide⟩, (Nat.le_of_ble_eq_true rfl), (Nat.le_of_ble_eq_true rfl)⟩ (Nat.le_of_ble_eq_true rfl) rfl dL_rhythms_110 kxN (fun v w_1 H locs hq hP hD hS => ?_)
  refine W.widen (k := 896) (n := 105364) (Nat.le_of_ble_eq_true rfl) (Nat.le_of_ble_eq_true rfl) ?_
  have hH : HC ε x R4 w_1 := hq.2.cv (S := R4) (by decide +kernel)
  obtain ⟨fo, hob⟩ := hH.ob
  rw [hq.1]
  dsimp only [Option.toList, List.cons_append, List.nil_append]
  rw [show nS R3 1 = 2 by decide +kernel]
  refine lv_iconst (pc := 113) (v := iv 2) hx hb dL_rhythms_113 rfl ?_
  refine r_icmp_ne (pc := 114) (a := 2) (b := 2) hx hb dL_rhythms_114 (tgt := 291) (by decide) ⟨by omega, by omega⟩ ⟨by omega, by omega⟩ (fun c_114 => ?_) (fun c_114 => ?_)
  · exact absurd c_114 (by decide)
  · have c_114_ := c_114
    refine lv_aload_n (pc := 117) hx hb dL_rhythms_117 rfl (lv_at hl 0 rfl) ?_
    refine lv_ldc (pc := 118) (own := RL) (v := iv 111111) hx hb hC.2.2.2.1 (by rw [show iv 111111 = (111111 : Int32) by decide]; exact hC.2.2.2.2.1 _ m_0_7) dL_rhythms_118 ?_
    refine c_callS (pc := 120) (y := yL_pattern) (As := [.ref x, .int (iv 111111)]) (rest := []) hC hE hP hD hS hl.1 (A_pat6 l ε hst hH (by decide +kernel) (by decide +kernel) 111111 1 1 1 1 1 1 (by decide +kernel) (by decide +kernel) (by decide +kernel) (by decide +kernel) (by decide +kernel) (by decide +kernel) (by decide +kernel)) m_16_6 m_16_7 m_0_5 m_16_8 hd_yL_pattern rfl ⟨⟨by decide, by decide⟩, (Nat.le_of_ble_eq_true rfl), (Nat.le_of_ble_eq_true rfl)⟩ (Nat.le_of_ble_eq_true rfl) rfl dL_rhythms_120 kxN (fun v w_2 H locs hq hP hD hS => ?_)
    refine W.widen (k := 913) (n := 108536) (Nat.le_of_ble_eq_true rfl) (Nat.le_of_ble_eq_true rfl) ?_
    have hH : HC ε x R5 w_2 := hq.2.cv (S := R5) (by decide +kernel)
    obtain ⟨fo, hob⟩ := hH.ob
    rw [hq.1]
    dsimp only [Option.toList, List.cons_append, List.nil_append]
    rw [show nS R4 1 = 3 by decide +kernel]
    refine lv_iconst (pc := 123) (v := iv 3) hx hb dL_rhythms_123 rfl ?_
    refine r_icmp_ne (pc := 124) (a := 3) (b := 3) hx hb dL_rhythms_124 (tgt := 291) (by decide) ⟨by omega, by omega⟩ ⟨by omega, by omega⟩ (fun c_124 => ?_) (fun c_124 => ?_)
    · exact absurd c_124 (by decide)
    · have c_124_ := c_124
      refine lv_aload_n (pc := 127) hx hb dL_rhythms_127 rfl (lv_at hl 0 rfl) ?_
      refine lv_bipush (pc := 128) (v := iv 11) hx hb dL_rhythms_128 (by decide) ?_
      refine c_callS (pc := 130) (y := yL_pattern) (As := [.ref x, .int (iv 11)]) (rest := []) hC hE hP hD hS hl.1 (A_pat2 l ε hst hH (by decide +kernel) (by decide +kernel) 11 1 1 (by decide +kernel) (by decide +kernel) (by decide +kernel)) m_16_6 m_16_7 m_0_5 m_16_8 hd_yL_pattern rfl ⟨⟨by decide, by decide⟩, (Nat.le_of_ble_eq_true rfl), (Nat.le_of_ble_eq_true rfl)⟩ (Nat.le_of_ble_eq_true rfl) rfl dL_rhythms_130 kxN (fun v w_3 H locs hq hP hD hS => ?_)
      refine W.widen (k := 922) (n := 111660) (Nat.le_of_ble_eq_true rfl) (Nat.le_of_ble_eq_true rfl) ?_
      have hH : HC ε x R6 w_3 := hq.2.cv (S := R6) (by decide +kernel)
      obtain ⟨fo, hob⟩ := hH.ob
      rw [hq.1]
      dsimp only [Option.toList, List.cons_append, List.nil_append]
      rw [show nS R5 1 = 4 by decide +kernel]
      refine lv_iconst (pc := 133) (v := iv 4) hx hb dL_rhythms_133 rfl ?_
      refine r_icmp_ne (pc := 134) (a := 4) (b := 4) hx hb dL_rhythms_134 (tgt := 291) (by decide) ⟨by omega, by omega⟩ ⟨by omega, by omega⟩ (fun c_134 => ?_) (fun c_134 => ?_)
      · exact absurd c_134 (by decide)
      · have c_134_ := c_134
        refine lv_aload_n (pc := 137) hx hb dL_rhythms_137 rfl (lv_at hl 0 rfl) ?_
        refine lv_sipush (pc := 138) (v := iv 2311) hx hb dL_rhythms_138 (by decide) ?_
        refine c_callS (pc := 141) (y := yL_pattern) (As := [.ref x, .int (iv 2311)]) (rest := []) hC hE hP hD hS hl.1 (A_pat4 l ε hst hH (by decide +kernel) (by decide +kernel) 2311 2 3 1 1 (by decide +kernel) (by decide +kernel) (by decide +kernel) (by decide +kernel) (by decide +kernel)) m_16_6 m_16_7 m_0_5 m_16_8 hd_yL_pattern rfl ⟨⟨by decide, by decide⟩, (Nat.le_of_ble_eq_true rfl), (Nat.le_of_ble_eq_true rfl)⟩ (Nat.le_of_ble_eq_true rfl) rfl dL_rhythms_141 kxN (fun v w_4 H locs hq hP hD hS => ?_)
        refine W.widen (k := 935) (n := 114808) (Nat.le_of_ble_eq_true rfl) (Nat.le_of_ble_eq_true rfl) ?_
        have hH : HC ε x R7 w_4 := hq.2.cv (S := R7) (by decide +kernel)
        obtain ⟨fo, hob⟩ := hH.ob
        rw [hq.1]
        dsimp only [Option.toList, List.cons_append, List.nil_append]
        rw [show nS R6 1 = 5 by decide +kernel]
        refine lv_iconst (pc := 144) (v := iv 5) hx hb dL_rhythms_144 rfl ?_
        refine r_icmp_ne (pc := 145) (a := 5) (b := 5) hx hb dL_rhythms_145 (tgt := 291) (by decide) ⟨by omega, by omega⟩ ⟨by omega, by omega⟩ (fun c_145 => ?_) (fun c_145 => ?_)
        · exact absurd c_145 (by decide)
        · have c_145_ := c_145
          refine lv_aload_n (pc := 148) hx hb dL_rhythms_148 rfl (lv_at hl 0 rfl) ?_
          refine lv_sipush (pc := 149) (v := iv 1123) hx hb dL_rhythms_149 (by decide) ?_
          refine c_callS (pc := 152) (y := yL_pattern) (As := [.ref x, .int (iv 1123)]) (rest := []) hC hE hP hD hS hl.1 (A_pat4 l ε hst hH (by decide +kernel) (by decide +kernel) 1123 1 1 2 3 (by decide +kernel) (by decide +kernel) (by decide +kernel) (by decide +kernel) (by decide +kernel)) m_16_6 m_16_7 m_0_5 m_16_8 hd_yL_pattern rfl ⟨⟨by decide, by decide⟩, (Nat.le_of_ble_eq_true rfl), (Nat.le_of_ble_eq_true rfl)⟩ (Nat.le_of_ble_eq_true rfl) rfl dL_rhythms_152 kxN (fun v w_5 H locs hq hP hD hS => ?_)
          refine W.widen (k := 948) (n := 117956) (Nat.le_of_ble_eq_true rfl) (Nat.le_of_ble_eq_true rfl) ?_
          have hH : HC ε x R8 w_5 := hq.2.cv (S := R8) (by decide +kernel)
          obtain ⟨fo, hob⟩ := hH.ob
          rw [hq.1]
          dsimp only [Option.toList, List.cons_append, List.nil_append]
          rw [show nS R7 1 = 6 by decide +kernel]
          refine lv_bipush (pc := 155) (v := iv 6) hx hb dL_rhythms_155 (by decide) ?_
          refine r_icmp_ne (pc := 157) (a := 6) (b := 6) hx hb dL_rhythms_157 (tgt := 291) (by decide) ⟨by omega, by omega⟩ ⟨by omega, by omega⟩ (fun c_157 => ?_) (fun c_157 => ?_)
          · exact absurd c_157 (by decide)
          · have c_157_ := c_157
            refine W.widen (k := 948) (n := 117956) (Nat.le_of_ble_eq_true rfl) (Nat.le_of_ble_eq_true rfl) ?_
            exact hnx _ _ _ _ _ _ _ _ _ hC hE hQ _ _ _ _ hH hP hD hS (lv_sub hl [0] rfl)
set_option maxRecDepth 100000 in
set_option maxHeartbeats 8000000 in
theorem sR_3 (l : Launch) (ε : EV) (hst : l.stackTraces = false) {x : Nat}  (hnx : SEG l ε yL_rhythms cL_rhythms 2 rm_A_rhythms (fun v z => v = some (.int (iv 1))) 216 1029 133792 [(0, .ref x)] (fun z => HC ε x R13 z)) : SEG l ε yL_rhythms cL_rhythms 2 rm_A_rhythms (fun v z => v = some (.int (iv 1))) 160 948 117956 [(0, .ref x)] (fun z => HC ε x R8 z) := by
  intro p9 e9 s9 m9 a9 bl9 me9 c9 Q9 hC hE hQ H locs ls w9 hH hP hD hS hl
  have hx := hC.1
  have hb := hC.2.1
  have hK := hE.K
  obtain ⟨fo, hob⟩ := hH.ob
  refine lv_aload_n (pc := 160) hx hb dL_rhythms_160 rfl (lv_at hl 0 rfl) ?_
  refine lv_sipush (pc := 161) (v := iv 2113) hx hb dL_rhythms_161 (by decide) ?_
  refine c_callS (pc := 164) (y := yL_pattern) (As := [.ref x, .int (iv 2113)]) (rest := []) hC hE hP hD hS hl.1 (A_pat4 l ε hst hH (by decide +kernel) (by decide +kernel) 2113 2 1 1 3 (by decide +kernel) (by decide +kernel) (by decide +kernel) (by decide +kernel) (by decide +kernel)) m_16_6 m_16_7 m_0_5 m_16_8 hd_yL_pattern rfl ⟨⟨by decide, by decide⟩, (Nat.le_of_ble_eq_true rfl), (Nat.le_of_ble_eq_true rfl)⟩ (Nat.le_of_ble_eq_true rfl) rfl dL_rhythms_164 kxN (fun v w_1 H locs hq hP hD hS => ?_)
  refine W.widen (k := 961) (n := 121104) (Nat.le_of_ble_eq_true rfl) (Nat.le_of_ble_eq_true rfl) ?_
  have hH : HC ε x R9 w_1 := hq.2.cv (S := R9) (by decide +kernel)
  obtain ⟨fo, hob⟩ := hH.ob
  rw [hq.1]
  dsimp only [Option.toList, List.cons_append, List.nil_append]
  rw [show nS R8 1 = 7 by decide +kernel]
  refine lv_bipush (pc := 167) (v := iv 7) hx hb dL_rhythms_167 (by decide) ?_
  refine r_icmp_ne (pc := 169) (a := 7) (b := 7) hx hb dL_rhythms_169 (tgt := 291) (by decide) ⟨by omega, by omega⟩ ⟨by omega, by omega⟩ (fun c_169 => ?_) (fun c_169 => ?_)
  · exact absurd c_169 (by decide)
  · have c_169_ := c_169
    refine lv_aload_n (pc := 172) hx hb dL_rhythms_172 rfl (lv_at hl 0 rfl) ?_
    refine lv_ldc (pc := 173) (own := RL) (v := iv 123456) hx hb hC.2.2.2.1 (by rw [show iv 123456 = (123456 : Int32) by decide]; exact hC.2.2.2.2.1 _ m_0_8) dL_rhythms_173 ?_
    refine c_callS (pc := 175) (y := yL_pattern) (As := [.ref x, .int (iv 123456)]) (rest := []) hC hE hP hD hS hl.1 (A_pat6 l ε hst hH (by decide +kernel) (by decide +kernel) 123456 1 2 3 4 5 6 (by decide +kernel) (by decide +kernel) (by decide +kernel) (by decide +kernel) (by decide +kernel) (by decide +kernel) (by decide +kernel)) m_16_6 m_16_7 m_0_5 m_16_8 hd_yL_pattern rfl ⟨⟨by decide, by decide⟩, (Nat.le_of_ble_eq_true rfl), (Nat.le_of_ble_eq_true rfl)⟩ (Nat.le_of_ble_eq_true rfl) rfl dL_rhythms_175 kxN (fun v w_2 H locs hq hP hD hS => ?_)
    refine W.widen (k := 978) (n := 124276) (Nat.le_of_ble_eq_true rfl) (Nat.le_of_ble_eq_true rfl) ?_
    have hH : HC ε x R10 w_2 := hq.2.cv (S := R10) (by decide +kernel)
    obtain ⟨fo, hob⟩ := hH.ob
    rw [hq.1]
    dsimp only [Option.toList, List.cons_append, List.nil_append]
    rw [show nS R9 1 = 8 by decide +kernel]
    refine lv_bipush (pc := 178) (v := iv 8) hx hb dL_rhythms_178 (by decide) ?_
    refine r_icmp_ne (pc := 180) (a := 8) (b := 8) hx hb dL_rhythms_180 (tgt := 291) (by decide) ⟨by omega, by omega⟩ ⟨by omega, by omega⟩ (fun c_180 => ?_) (fun c_180 => ?_)
    · exact absurd c_180 (by decide)
    · have c_180_ := c_180
      refine lv_aload_n (pc := 183) hx hb dL_rhythms_183 rfl (lv_at hl 0 rfl) ?_
      refine lv_ldc (pc := 184) (own := RL) (v := iv 345612) hx hb hC.2.2.2.1 (by rw [show iv 345612 = (345612 : Int32) by decide]; exact hC.2.2.2.2.1 _ m_0_9) dL_rhythms_184 ?_
      refine c_callS (pc := 186) (y := yL_pattern) (As := [.ref x, .int (iv 345612)]) (rest := []) hC hE hP hD hS hl.1 (A_pat6 l ε hst hH (by decide +kernel) (by decide +kernel) 345612 3 4 5 6 1 2 (by decide +kernel) (by decide +kernel) (by decide +kernel) (by decide +kernel) (by decide +kernel) (by decide +kernel) (by decide +kernel)) m_16_6 m_16_7 m_0_5 m_16_8 hd_yL_pattern rfl ⟨⟨by decide, by decide⟩, (Nat.le_of_ble_eq_true rfl), (Nat.le_of_ble_eq_true rfl)⟩ (Nat.le_of_ble_eq_true rfl) rfl dL_rhythms_186 kxN (fun v w_3 H locs hq hP hD hS => ?_)
      refine W.widen (k := 995) (n := 127448) (Nat.le_of_ble_eq_true rfl) (Nat.le_of_ble_eq_true rfl) ?_
      have hH : HC ε x R11 w_3 := hq.2.cv (S := R11) (by decide +kernel)
      obtain ⟨fo, hob⟩ := hH.ob
      rw [hq.1]
      dsimp only [Option.toList, List.cons_append, List.nil_append]
      rw [show nS R10 1 = 9 by decide +kernel]
      refine lv_bipush (pc := 189) (v := iv 9) hx hb dL_rhythms_189 (by decide) ?_
      refine r_icmp_ne (pc := 191) (a := 9) (b := 9) hx hb dL_rhythms_191 (tgt := 291) (by decide) ⟨by omega, by omega⟩ ⟨by omega, by omega⟩ (fun c_191 => ?_) (fun c_191 => ?_)
      · exact absurd c_191 (by decide)
      · have c_191_ := c_191
        refine lv_aload_n (pc := 194) hx hb dL_rhythms_194 rfl (lv_at hl 0 rfl) ?_
        refine lv_ldc (pc := 195) (own := RL) (v := iv 123465) hx hb hC.2.2.2.1 (by rw [show iv 123465 = (123465 : Int32) by decide]; exact hC.2.2.2.2.1 _ m_0_10) dL_rhythms_195 ?_
        refine c_callS (pc := 197) (y := yL_pattern) (As := [.ref x, .int (iv 123465)]) (rest := []) hC hE hP hD hS hl.1 (A_pat6 l ε hst hH (by decide +kernel) (by decide +kernel) 123465 1 2 3 4 6 5 (by decide +kernel) (by decide +kernel) (by decide +kernel) (by decide +kernel) (by decide +kernel) (by decide +kernel) (by decide +kernel)) m_16_6 m_16_7 m_0_5 m_16_8 hd_yL_pattern rfl ⟨⟨by decide, by decide⟩, (Nat.le_of_ble_eq_true rfl), (Nat.le_of_ble_eq_true rfl)⟩ (Nat.le_of_ble_eq_true rfl) rfl dL_rhythms_197 kxN (fun v w_4 H locs hq hP hD hS => ?_)
        refine W.widen (k := 1012) (n := 130620) (Nat.le_of_ble_eq_true rfl) (Nat.le_of_ble_eq_true rfl) ?_
        have hH : HC ε x R12 w_4 := hq.2.cv (S := R12) (by decide +kernel)
        obtain ⟨fo, hob⟩ := hH.ob
        rw [hq.1]
        dsimp only [Option.toList, List.cons_append, List.nil_append]
        rw [show nS R11 1 = 10 by decide +kernel]
        refine lv_bipush (pc := 200) (v := iv 10) hx hb dL_rhythms_200 (by decide) ?_
        refine r_icmp_ne (pc := 202) (a := 10) (b := 10) hx hb dL_rhythms_202 (tgt := 291) (by decide) ⟨by omega, by omega⟩ ⟨by omega, by omega⟩ (fun c_202 => ?_) (fun c_202 => ?_)
        · exact absurd c_202 (by decide)
        · have c_202_ := c_202
          refine lv_aload_n (pc := 205) hx hb dL_rhythms_205 rfl (lv_at hl 0 rfl) ?_
          refine lv_ldc (pc := 206) (own := RL) (v := iv 991999) hx hb hC.2.2.2.1 (by rw [show iv 991999 = (991999 : Int32) by decide]; exact hC.2.2.2.2.1 _ m_0_11) dL_rhythms_206 ?_
          refine c_callS (pc := 208) (y := yL_pattern) (As := [.ref x, .int (iv 991999)]) (rest := []) hC hE hP hD hS hl.1 (A_pat6 l ε hst hH (by decide +kernel) (by decide +kernel) 991999 9 9 1 9 9 9 (by decide +kernel) (by decide +kernel) (by decide +kernel) (by decide +kernel) (by decide +kernel) (by decide +kernel) (by decide +kernel)) m_16_6 m_16_7 m_0_5 m_16_8 hd_yL_pattern rfl ⟨⟨by decide, by decide⟩, (Nat.le_of_ble_eq_true rfl), (Nat.le_of_ble_eq_true rfl)⟩ (Nat.le_of_ble_eq_true rfl) rfl dL_rhythms_208 kxN (fun v w_5 H locs hq hP hD hS => ?_)
          refine W.widen (k := 1029) (n := 133792) (Nat.le_of_ble_eq_true rfl) (Nat.le_of_ble_eq_true rfl) ?_
          have hH : HC ε x R13 w_5 := hq.2.cv (S := R13) (by decide +kernel)
          obtain ⟨fo, hob⟩ := hH.ob
          rw [hq.1]
          dsimp only [Option.toList, List.cons_append, List.nil_append]
          rw [show nS R12 1 = 11 by decide +kernel]
          refine lv_bipush (pc := 211) (v := iv 11) hx hb dL_rhythms_211 (by decide) ?_
          refine r_icmp_ne (pc := 213) (a := 11) (b := 11) hx hb dL_rhythms_213 (tgt := 291) (by decide) ⟨by omega, by omega⟩ ⟨by omega, by omega⟩ (fun c_213 => ?_) (fun c_213 => ?_)
          · exact absurd c_213 (by decide)
          · have c_213_ := c_213
            refine W.widen (k := 1029) (n := 133792) (Nat.le_of_ble_eq_true rfl) (Nat.le_of_ble_eq_true rfl) ?_
            exact hnx _ _ _ _ _ _ _ _ _ hC hE hQ _ _ _ _ hH hP hD hS (lv_sub hl [0] rfl)
set_option maxRecDepth 100000 in
set_option maxHeartbeats 8000000 in
theorem sR_4 (l : Launch) (ε : EV) (hst : l.stackTraces = false) {x : Nat}  (hnx : SEG l ε yL_rhythms cL_rhythms 2 rm_A_rhythms (fun v z => v = some (.int (iv 1))) 269 1062 140130 [(0, .ref x)] (fun z => HC ε x R15 z)) : SEG l ε yL_rhythms cL_rhythms 2 rm_A_rhythms (fun v z => v = some (.int (iv 1))) 216 1029 133792 [(0, .ref x)] (fun z => HC ε x R13 z) := by
  intro p9 e9 s9 m9 a9 bl9 me9 c9 Q9 hC hE hQ H locs ls w9 hH hP hD hS hl
  have hx := hC.1
  have hb := hC.2.1
  have hK := hE.K
  obtain ⟨fo, hob⟩ := hH.ob
  refine lv_aload_n (pc := 216) hx hb dL_rhythms_216 rfl (lv_at hl 0 rfl) ?_
  refine lv_ldc (pc := 217) (own := RL) (v := iv 232323) hx hb hC.2.2.2.1 (by rw [show iv 232323 = (232323 : Int32) by decide]; exact hC.2.2.2.2.1 _ m_0_12) dL_rhythms_217 ?_
  refine c_callS (pc := 219) (y := yL_pattern) (As := [.ref x, .int (iv 232323)]) (rest := []) hC hE hP hD hS hl.1 (A_pat6 l ε hst hH (by decide +kernel) (by decide +kernel) 232323 2 3 2 3 2 3 (by decide +kernel) (by decide +kernel) (by decide +kernel) (by decide +kernel) (by decide +kernel) (by decide +kernel) (by decide +kernel)) m_16_6 m_16_7 m_0_5 m_16_8 hd_yL_pattern rfl ⟨⟨by decide, by decide⟩, (Nat.le_of_ble_eq_true rfl), (Nat.le_of_ble_eq_true rfl)⟩ (Nat.le_of_ble_eq_true rfl) rfl dL_rhythms_219 kxN (fun v w_1 H locs hq hP hD hS => ?_)
  refine W.widen (k := 1046) (n := 136964) (Nat.le_of_ble_eq_true rfl) (Nat.le_of_ble_eq_true rfl) ?_
  have hH : HC ε x R14 w_1 := hq.2.cv (S := R14) (by decide +kernel)
  obtain ⟨fo, hob⟩ := hH.ob
  rw [hq.1]
  dsimp only [Option.toList, List.cons_append, List.nil_append]
  rw [show nS R13 1 = 12 by decide +kernel]
  refine lv_bipush (pc := 222) (v := iv 12) hx hb dL_rhythms_222 (by decide) ?_
  refine r_icmp_ne (pc := 224) (a := 12) (b := 12) hx hb dL_rhythms_224 (tgt := 291) (by decide) ⟨by omega, by omega⟩ ⟨by omega, by omega⟩ (fun c_224 => ?_) (fun c_224 => ?_)
  · exact absurd c_224 (by decide)
  · have c_224_ := c_224
    refine lv_aload_n (pc := 227) hx hb dL_rhythms_227 rfl (lv_at hl 0 rfl) ?_
    refine lv_sipush (pc := 228) (v := iv 1111) hx hb dL_rhythms_228 (by decide) ?_
    refine c_callS (pc := 231) (y := yL_pattern) (As := [.ref x, .int (iv 1111)]) (rest := []) hC hE hP hD hS hl.1 (A_pat4 l ε hst hH (by decide +kernel) (by decide +kernel) 1111 1 1 1 1 (by decide +kernel) (by decide +kernel) (by decide +kernel) (by decide +kernel) (by decide +kernel)) m_16_6 m_16_7 m_0_5 m_16_8 hd_yL_pattern rfl ⟨⟨by decide, by decide⟩, (Nat.le_of_ble_eq_true rfl), (Nat.le_of_ble_eq_true rfl)⟩ (Nat.le_of_ble_eq_true rfl) rfl dL_rhythms_231 kxN (fun v w_2 H locs hq hP hD hS => ?_)
    refine W.widen (k := 1059) (n := 140112) (Nat.le_of_ble_eq_true rfl) (Nat.le_of_ble_eq_true rfl) ?_
    have hH : HC ε x R15 w_2 := hq.2.cv (S := R15) (by decide +kernel)
    obtain ⟨fo, hob⟩ := hH.ob
    rw [hq.1]
    dsimp only [Option.toList, List.cons_append, List.nil_append]
    rw [show nS R14 1 = 13 by decide +kernel]
    refine lv_bipush (pc := 234) (v := iv 13) hx hb dL_rhythms_234 (by decide) ?_
    refine r_icmp_ne (pc := 236) (a := 13) (b := 13) hx hb dL_rhythms_236 (tgt := 291) (by decide) ⟨by omega, by omega⟩ ⟨by omega, by omega⟩ (fun c_236 => ?_) (fun c_236 => ?_)
    · exact absurd c_236 (by decide)
    · have c_236_ := c_236
      refine lv_aload_n (pc := 239) hx hb dL_rhythms_239 rfl (lv_at hl 0 rfl) ?_
      refine lv_iconst (pc := 240) (v := iv 0) hx hb dL_rhythms_240 rfl ?_
      refine c_callV (pc := 241) (y := yX4_period) (As := [.int (iv 0)]) (rest := []) hC hE hP hD hS hl.1 (K_period l ε hst hH 0 (by decide +kernel)) m_8_15 m_8_16 m_8_17 m_0_2 m_8_18 hob rfl hd_yX4_period rfl ⟨⟨by decide, by decide⟩, (Nat.le_of_ble_eq_true rfl), (Nat.le_of_ble_eq_true rfl)⟩ (Nat.le_of_ble_eq_true rfl) rfl dL_rhythms_241 kxN (fun v w_3 H locs hq hP hD hS => ?_)
      refine W.widen (k := 1060) (n := 140118) (Nat.le_of_ble_eq_true rfl) (Nat.le_of_ble_eq_true rfl) ?_
      rw [hq.2] at hP hD
      rw [hq.1]
      dsimp only [Option.toList, List.cons_append, List.nil_append]
      rw [show gS R15 3 (0 : Int).toNat = 5 by decide +kernel]
      refine lv_iconst (pc := 244) (v := iv 5) hx hb dL_rhythms_244 rfl ?_
      refine r_icmp_ne (pc := 245) (a := 5) (b := 5) hx hb dL_rhythms_245 (tgt := 291) (by decide) ⟨by omega, by omega⟩ ⟨by omega, by omega⟩ (fun c_245 => ?_) (fun c_245 => ?_)
      · exact absurd c_245 (by decide)
      · have c_245_ := c_245
        refine lv_aload_n (pc := 248) hx hb dL_rhythms_248 rfl (lv_at hl 0 rfl) ?_
        refine lv_iconst (pc := 249) (v := iv 1) hx hb dL_rhythms_249 rfl ?_
        refine c_callV (pc := 250) (y := yX4_period) (As := [.int (iv 1)]) (rest := []) hC hE hP hD hS hl.1 (K_period l ε hst hH 1 (by decide +kernel)) m_8_15 m_8_16 m_8_17 m_0_2 m_8_18 hob rfl hd_yX4_period rfl ⟨⟨by decide, by decide⟩, (Nat.le_of_ble_eq_true rfl), (Nat.le_of_ble_eq_true rfl)⟩ (Nat.le_of_ble_eq_true rfl) rfl dL_rhythms_250 kxN (fun v w_4 H locs hq hP hD hS => ?_)
        refine W.widen (k := 1061) (n := 140124) (Nat.le_of_ble_eq_true rfl) (Nat.le_of_ble_eq_true rfl) ?_
        rw [hq.2] at hP hD
        rw [hq.1]
        dsimp only [Option.toList, List.cons_append, List.nil_append]
        rw [show gS R15 3 (1 : Int).toNat = 10 by decide +kernel]
        refine lv_bipush (pc := 253) (v := iv 10) hx hb dL_rhythms_253 (by decide) ?_
        refine r_icmp_ne (pc := 255) (a := 10) (b := 10) hx hb dL_rhythms_255 (tgt := 291) (by decide) ⟨by omega, by omega⟩ ⟨by omega, by omega⟩ (fun c_255 => ?_) (fun c_255 => ?_)
        · exact absurd c_255 (by decide)
        · have c_255_ := c_255
          refine lv_aload_n (pc := 258) hx hb dL_rhythms_258 rfl (lv_at hl 0 rfl) ?_
          refine lv_bipush (pc := 259) (v := iv 8) hx hb dL_rhythms_259 (by decide) ?_
          refine c_callV (pc := 261) (y := yX4_period) (As := [.int (iv 8)]) (rest := []) hC hE hP hD hS hl.1 (K_period l ε hst hH 8 (by decide +kernel)) m_8_15 m_8_16 m_8_17 m_0_2 m_8_18 hob rfl hd_yX4_period rfl ⟨⟨by decide, by decide⟩, (Nat.le_of_ble_eq_true rfl), (Nat.le_of_ble_eq_true rfl)⟩ (Nat.le_of_ble_eq_true rfl) rfl dL_rhythms_261 kxN (fun v w_5 H locs hq hP hD hS => ?_)
          refine W.widen (k := 1062) (n := 140130) (Nat.le_of_ble_eq_true rfl) (Nat.le_of_ble_eq_true rfl) ?_
          rw [hq.2] at hP hD
          rw [hq.1]
          dsimp only [Option.toList, List.cons_append, List.nil_append]
          rw [show gS R15 3 (8 : Int).toNat = 21 by decide +kernel]
          refine lv_bipush (pc := 264) (v := iv 21) hx hb dL_rhythms_264 (by decide) ?_
          refine r_icmp_ne (pc := 266) (a := 21) (b := 21) hx hb dL_rhythms_266 (tgt := 291) (by decide) ⟨by omega, by omega⟩ ⟨by omega, by omega⟩ (fun c_266 => ?_) (fun c_266 => ?_)
          · exact absurd c_266 (by decide)
          · have c_266_ := c_266
            refine W.widen (k := 1062) (n := 140130) (Nat.le_of_ble_eq_true rfl) (Nat.le_of_ble_eq_true rfl) ?_
            exact hnx _ _ _ _ _ _ _ _ _ hC hE hQ _ _ _ _ hH hP hD hS (lv_sub hl [0] rfl)
set_option maxRecDepth 100000 in
set_option maxHeartbeats 8000000 in
theorem sR_5 (l : Launch) (ε : EV) (hst : l.stackTraces = false) {x : Nat}  (hnx : SEG l ε yL_rhythms cL_rhythms 2 rm_A_rhythms (fun v z => v = some (.int (iv 1))) 325 1088 140286 [(0, .ref x)] (fun z => HC ε x R15 z)) : SEG l ε yL_rhythms cL_rhythms 2 rm_A_rhythms (fun v z => v = some (.int (iv 1))) 269 1062 140130 [(0, .ref x)] (fun z => HC ε x R15 z) := by
  intro p9 e9 s9 m9 a9 bl9 me9 c9 Q9 hC hE hQ H locs ls w9 hH hP hD hS hl
  have hx := hC.1
  have hb := hC.2.1
  have hK := hE.K
  obtain ⟨fo, hob⟩ := hH.ob
  refine lv_aload_n (pc := 269) hx hb dL_rhythms_269 rfl (lv_at hl 0 rfl) ?_
  refine lv_bipush (pc := 270) (v := iv 11) hx hb dL_rhythms_270 (by decide) ?_
  refine c_callV (pc := 272) (y := yX4_period) (As := [.int (iv 11)]) (rest := []) hC hE hP hD hS hl.1 (K_period l ε hst hH 11 (by decide +kernel)) m_8_15 m_8_16 m_8_17 m_0_2 m_8_18 hob rfl hd_yX4_period rfl ⟨⟨by decide, by decide⟩, (Nat.le_of_ble_eq_true rfl), (Nat.le_of_ble_eq_true rfl)⟩ (Nat.le_of_ble_eq_true rfl) rfl dL_rhythms_272 kxN (fun v w_1 H locs hq hP hD hS => ?_)
  refine W.widen (k := 1063) (n := 140136) (Nat.le_of_ble_eq_true rfl) (Nat.le_of_ble_eq_true rfl) ?_
  rw [hq.2] at hP hD
  rw [hq.1]
  dsimp only [Option.toList, List.cons_append, List.nil_append]
  rw [show gS R15 3 (11 : Int).toNat = 46 by decide +kernel]
  refine lv_bipush (pc := 275) (v := iv 46) hx hb dL_rhythms_275 (by decide) ?_
  refine r_icmp_ne (pc := 277) (a := 46) (b := 46) hx hb dL_rhythms_277 (tgt := 291) (by decide) ⟨by omega, by omega⟩ ⟨by omega, by omega⟩ (fun c_277 => ?_) (fun c_277 => ?_)
  · exact absurd c_277 (by decide)
  · have c_277_ := c_277
    refine lv_aload_n (pc := 280) hx hb dL_rhythms_280 rfl (lv_at hl 0 rfl) ?_
    refine lv_bipush (pc := 281) (v := iv 12) hx hb dL_rhythms_281 (by decide) ?_
    refine c_callV (pc := 283) (y := yX4_period) (As := [.int (iv 12)]) (rest := []) hC hE hP hD hS hl.1 (K_period l ε hst hH 12 (by decide +kernel)) m_8_15 m_8_16 m_8_17 m_0_2 m_8_18 hob rfl hd_yX4_period rfl ⟨⟨by decide, by decide⟩, (Nat.le_of_ble_eq_true rfl), (Nat.le_of_ble_eq_true rfl)⟩ (Nat.le_of_ble_eq_true rfl) rfl dL_rhythms_283 kxN (fun v w_2 H locs hq hP hD hS => ?_)
    refine W.widen (k := 1064) (n := 140142) (Nat.le_of_ble_eq_true rfl) (Nat.le_of_ble_eq_true rfl) ?_
    rw [hq.2] at hP hD
    rw [hq.1]
    dsimp only [Option.toList, List.cons_append, List.nil_append]
    rw [show gS R15 3 (12 : Int).toNat = 15 by decide +kernel]
    refine lv_bipush (pc := 286) (v := iv 15) hx hb dL_rhythms_286 (by decide) ?_
    refine r_icmp_eq (pc := 288) (a := 15) (b := 15) hx hb dL_rhythms_288 (tgt := 293) (by decide) ⟨by omega, by omega⟩ ⟨by omega, by omega⟩ (fun c_288 => ?_) (fun c_288 => ?_)
    · have c_288_ := c_288
      refine lv_aload_n (pc := 293) hx hb dL_rhythms_293 rfl (lv_at hl 0 rfl) ?_
      refine lv_iconst (pc := 294) (v := iv 0) hx hb dL_rhythms_294 rfl ?_
      refine lv_iconst (pc := 295) (v := iv 1) hx hb dL_rhythms_295 rfl ?_
      refine lv_iconst (pc := 296) (v := iv 1) hx hb dL_rhythms_296 rfl ?_
      refine c_callS (pc := 297) (y := yL_alike) (As := [.ref x, .int (iv 0), .int (iv 1), .int (iv 1)]) (rest := []) hC hE hP hD hS hl.1 (A_alike l ε hst hH 0 1 (by decide +kernel) (by decide +kernel) true (by decide +kernel) (by decide +kernel) (by decide +kernel) (by decide +kernel)) m_16_9 m_16_10 m_0_5 m_16_11 hd_yL_alike rfl ⟨⟨by decide, by decide⟩, (Nat.le_of_ble_eq_true rfl), (Nat.le_of_ble_eq_true rfl)⟩ (Nat.le_of_ble_eq_true rfl) rfl dL_rhythms_297 kxN (fun v w_3 H locs hq hP hD hS => ?_)
      refine W.widen (k := 1072) (n := 140190) (Nat.le_of_ble_eq_true rfl) (Nat.le_of_ble_eq_true rfl) ?_
      rw [hq.2] at hP hD
      rw [hq.1]
      dsimp only [Option.toList, List.cons_append, List.nil_append]
      refine r_if_eq (pc := 300) (a := 1) hx hb dL_rhythms_300 (tgt := 446) (by decide) ⟨by omega, by omega⟩ (fun c_300 => ?_) (fun c_300 => ?_)
      · exact absurd c_300 (by decide)
      · have c_300_ := c_300
        refine lv_aload_n (pc := 303) hx hb dL_rhythms_303 rfl (lv_at hl 0 rfl) ?_
        refine lv_iconst (pc := 304) (v := iv 0) hx hb dL_rhythms_304 rfl ?_
        refine lv_bipush (pc := 305) (v := iv 12) hx hb dL_rhythms_305 (by decide) ?_
        refine lv_iconst (pc := 307) (v := iv 1) hx hb dL_rhythms_307 rfl ?_
        refine c_callS (pc := 308) (y := yL_alike) (As := [.ref x, .int (iv 0), .int (iv 12), .int (iv 1)]) (rest := []) hC hE hP hD hS hl.1 (A_alike l ε hst hH 0 12 (by decide +kernel) (by decide +kernel) true (by decide +kernel) (by decide +kernel) (by decide +kernel) (by decide +kernel)) m_16_9 m_16_10 m_0_5 m_16_11 hd_yL_alike rfl ⟨⟨by decide, by decide⟩, (Nat.le_of_ble_eq_true rfl), (Nat.le_of_ble_eq_true rfl)⟩ (Nat.le_of_ble_eq_true rfl) rfl dL_rhythms_308 kxN (fun v w_4 H locs hq hP hD hS => ?_)
        refine W.widen (k := 1080) (n := 140238) (Nat.le_of_ble_eq_true rfl) (Nat.le_of_ble_eq_true rfl) ?_
        rw [hq.2] at hP hD
        rw [hq.1]
        dsimp only [Option.toList, List.cons_append, List.nil_append]
        refine r_if_eq (pc := 311) (a := 1) hx hb dL_rhythms_311 (tgt := 446) (by decide) ⟨by omega, by omega⟩ (fun c_311 => ?_) (fun c_311 => ?_)
        · exact absurd c_311 (by decide)
        · have c_311_ := c_311
          refine lv_aload_n (pc := 314) hx hb dL_rhythms_314 rfl (lv_at hl 0 rfl) ?_
          refine lv_iconst (pc := 315) (v := iv 1) hx hb dL_rhythms_315 rfl ?_
          refine lv_bipush (pc := 316) (v := iv 12) hx hb dL_rhythms_316 (by decide) ?_
          refine lv_iconst (pc := 318) (v := iv 1) hx hb dL_rhythms_318 rfl ?_
          refine c_callS (pc := 319) (y := yL_alike) (As := [.ref x, .int (iv 1), .int (iv 12), .int (iv 1)]) (rest := []) hC hE hP hD hS hl.1 (A_alike l ε hst hH 1 12 (by decide +kernel) (by decide +kernel) true (by decide +kernel) (by decide +kernel) (by decide +kernel) (by decide +kernel)) m_16_9 m_16_10 m_0_5 m_16_11 hd_yL_alike rfl ⟨⟨by decide, by decide⟩, (Nat.le_of_ble_eq_true rfl), (Nat.le_of_ble_eq_true rfl)⟩ (Nat.le_of_ble_eq_true rfl) rfl dL_rhythms_319 kxN (fun v w_5 H locs hq hP hD hS => ?_)
          refine W.widen (k := 1088) (n := 140286) (Nat.le_of_ble_eq_true rfl) (Nat.le_of_ble_eq_true rfl) ?_
          rw [hq.2] at hP hD
          rw [hq.1]
          dsimp only [Option.toList, List.cons_append, List.nil_append]
          refine r_if_eq (pc := 322) (a := 1) hx hb dL_rhythms_322 (tgt := 446) (by decide) ⟨by omega, by omega⟩ (fun c_322 => ?_) (fun c_322 => ?_)
          · exact absurd c_322 (by decide)
          · have c_322_ := c_322
            refine W.widen (k := 1088) (n := 140286) (Nat.le_of_ble_eq_true rfl) (Nat.le_of_ble_eq_true rfl) ?_
            exact hnx _ _ _ _ _ _ _ _ _ hC hE hQ _ _ _ _ hH hP hD hS (lv_sub hl [0] rfl)
    · exact absurd c_288 (by decide)
set_option maxRecDepth 100000 in
set_option maxHeartbeats 8000000 in
theorem sR_6 (l : Launch) (ε : EV) (hst : l.stackTraces = false) {x : Nat}  (hnx : SEG l ε yL_rhythms cL_rhythms 2 rm_A_rhythms (fun v z => v = some (.int (iv 1))) 377 1128 140526 [(0, .ref x)] (fun z => HC ε x R15 z)) : SEG l ε yL_rhythms cL_rhythms 2 rm_A_rhythms (fun v z => v = some (.int (iv 1))) 325 1088 140286 [(0, .ref x)] (fun z => HC ε x R15 z) := by
  intro p9 e9 s9 m9 a9 bl9 me9 c9 Q9 hC hE hQ H locs ls w9 hH hP hD hS hl
  have hx := hC.1
  have hb := hC.2.1
  have hK := hE.K
  obtain ⟨fo, hob⟩ := hH.ob
  refine lv_aload_n (pc := 325) hx hb dL_rhythms_325 rfl (lv_at hl 0 rfl) ?_
  refine lv_iconst (pc := 326) (v := iv 0) hx hb dL_rhythms_326 rfl ?_
  refine lv_iconst (pc := 327) (v := iv 2) hx hb dL_rhythms_327 rfl ?_
  refine lv_iconst (pc := 328) (v := iv 0) hx hb dL_rhythms_328 rfl ?_
  refine c_callS (pc := 329) (y := yL_alike) (As := [.ref x, .int (iv 0), .int (iv 2), .int (iv 0)]) (rest := []) hC hE hP hD hS hl.1 (A_alike l ε hst hH 0 2 (by decide +kernel) (by decide +kernel) false (by decide +kernel) (by decide +kernel) (by decide +kernel) (by decide +kernel)) m_16_9 m_16_10 m_0_5 m_16_11 hd_yL_alike rfl ⟨⟨by decide, by decide⟩, (Nat.le_of_ble_eq_true rfl), (Nat.le_of_ble_eq_true rfl)⟩ (Nat.le_of_ble_eq_true rfl) rfl dL_rhythms_329 kxN (fun v w_1 H locs hq hP hD hS => ?_)
  refine W.widen (k := 1096) (n := 140334) (Nat.le_of_ble_eq_true rfl) (Nat.le_of_ble_eq_true rfl) ?_
  rw [hq.2] at hP hD
  rw [hq.1]
  dsimp only [Option.toList, List.cons_append, List.nil_append]
  refine r_if_eq (pc := 332) (a := 1) hx hb dL_rhythms_332 (tgt := 446) (by decide) ⟨by omega, by omega⟩ (fun c_332 => ?_) (fun c_332 => ?_)
  · exact absurd c_332 (by decide)
  · have c_332_ := c_332
    refine lv_aload_n (pc := 335) hx hb dL_rhythms_335 rfl (lv_at hl 0 rfl) ?_
    refine lv_iconst (pc := 336) (v := iv 1) hx hb dL_rhythms_336 rfl ?_
    refine lv_iconst (pc := 337) (v := iv 2) hx hb dL_rhythms_337 rfl ?_
    refine lv_iconst (pc := 338) (v := iv 0) hx hb dL_rhythms_338 rfl ?_
    refine c_callS (pc := 339) (y := yL_alike) (As := [.ref x, .int (iv 1), .int (iv 2), .int (iv 0)]) (rest := []) hC hE hP hD hS hl.1 (A_alike l ε hst hH 1 2 (by decide +kernel) (by decide +kernel) false (by decide +kernel) (by decide +kernel) (by decide +kernel) (by decide +kernel)) m_16_9 m_16_10 m_0_5 m_16_11 hd_yL_alike rfl ⟨⟨by decide, by decide⟩, (Nat.le_of_ble_eq_true rfl), (Nat.le_of_ble_eq_true rfl)⟩ (Nat.le_of_ble_eq_true rfl) rfl dL_rhythms_339 kxN (fun v w_2 H locs hq hP hD hS => ?_)
    refine W.widen (k := 1104) (n := 140382) (Nat.le_of_ble_eq_true rfl) (Nat.le_of_ble_eq_true rfl) ?_
    rw [hq.2] at hP hD
    rw [hq.1]
    dsimp only [Option.toList, List.cons_append, List.nil_append]
    refine r_if_eq (pc := 342) (a := 1) hx hb dL_rhythms_342 (tgt := 446) (by decide) ⟨by omega, by omega⟩ (fun c_342 => ?_) (fun c_342 => ?_)
    · exact absurd c_342 (by decide)
    · have c_342_ := c_342
      refine lv_aload_n (pc := 345) hx hb dL_rhythms_345 rfl (lv_at hl 0 rfl) ?_
      refine lv_iconst (pc := 346) (v := iv 3) hx hb dL_rhythms_346 rfl ?_
      refine lv_iconst (pc := 347) (v := iv 4) hx hb dL_rhythms_347 rfl ?_
      refine lv_iconst (pc := 348) (v := iv 1) hx hb dL_rhythms_348 rfl ?_
      refine c_callS (pc := 349) (y := yL_alike) (As := [.ref x, .int (iv 3), .int (iv 4), .int (iv 1)]) (rest := []) hC hE hP hD hS hl.1 (A_alike l ε hst hH 3 4 (by decide +kernel) (by decide +kernel) true (by decide +kernel) (by decide +kernel) (by decide +kernel) (by decide +kernel)) m_16_9 m_16_10 m_0_5 m_16_11 hd_yL_alike rfl ⟨⟨by decide, by decide⟩, (Nat.le_of_ble_eq_true rfl), (Nat.le_of_ble_eq_true rfl)⟩ (Nat.le_of_ble_eq_true rfl) rfl dL_rhythms_349 kxN (fun v w_3 H locs hq hP hD hS => ?_)
      refine W.widen (k := 1112) (n := 140430) (Nat.le_of_ble_eq_true rfl) (Nat.le_of_ble_eq_true rfl) ?_
      rw [hq.2] at hP hD
      rw [hq.1]
      dsimp only [Option.toList, List.cons_append, List.nil_append]
      refine r_if_eq (pc := 352) (a := 1) hx hb dL_rhythms_352 (tgt := 446) (by decide) ⟨by omega, by omega⟩ (fun c_352 => ?_) (fun c_352 => ?_)
      · exact absurd c_352 (by decide)
      · have c_352_ := c_352
        refine lv_aload_n (pc := 355) hx hb dL_rhythms_355 rfl (lv_at hl 0 rfl) ?_
        refine lv_iconst (pc := 356) (v := iv 3) hx hb dL_rhythms_356 rfl ?_
        refine lv_bipush (pc := 357) (v := iv 13) hx hb dL_rhythms_357 (by decide) ?_
        refine lv_iconst (pc := 359) (v := iv 1) hx hb dL_rhythms_359 rfl ?_
        refine c_callS (pc := 360) (y := yL_alike) (As := [.ref x, .int (iv 3), .int (iv 13), .int (iv 1)]) (rest := []) hC hE hP hD hS hl.1 (A_alike l ε hst hH 3 13 (by decide +kernel) (by decide +kernel) true (by decide +kernel) (by decide +kernel) (by decide +kernel) (by decide +kernel)) m_16_9 m_16_10 m_0_5 m_16_11 hd_yL_alike rfl ⟨⟨by decide, by decide⟩, (Nat.le_of_ble_eq_true rfl), (Nat.le_of_ble_eq_true rfl)⟩ (Nat.le_of_ble_eq_true rfl) rfl dL_rhythms_360 kxN (fun v w_4 H locs hq hP hD hS => ?_)
        refine W.widen (k := 1120) (n := 140478) (Nat.le_of_ble_eq_true rfl) (Nat.le_of_ble_eq_true rfl) ?_
        rw [hq.2] at hP hD
        rw [hq.1]
        dsimp only [Option.toList, List.cons_append, List.nil_append]
        refine r_if_eq (pc := 363) (a := 1) hx hb dL_rhythms_363 (tgt := 446) (by decide) ⟨by omega, by omega⟩ (fun c_363 => ?_) (fun c_363 => ?_)
        · exact absurd c_363 (by decide)
        · have c_363_ := c_363
          refine lv_aload_n (pc := 366) hx hb dL_rhythms_366 rfl (lv_at hl 0 rfl) ?_
          refine lv_iconst (pc := 367) (v := iv 5) hx hb dL_rhythms_367 rfl ?_
          refine lv_bipush (pc := 368) (v := iv 6) hx hb dL_rhythms_368 (by decide) ?_
          refine lv_iconst (pc := 370) (v := iv 1) hx hb dL_rhythms_370 rfl ?_
          refine c_callS (pc := 371) (y := yL_alike) (As := [.ref x, .int (iv 5), .int (iv 6), .int (iv 1)]) (rest := []) hC hE hP hD hS hl.1 (A_alike l ε hst hH 5 6 (by decide +kernel) (by decide +kernel) true (by decide +kernel) (by decide +kernel) (by decide +kernel) (by decide +kernel)) m_16_9 m_16_10 m_0_5 m_16_11 hd_yL_alike rfl ⟨⟨by decide, by decide⟩, (Nat.le_of_ble_eq_true rfl), (Nat.le_of_ble_eq_true rfl)⟩ (Nat.le_of_ble_eq_true rfl) rfl dL_rhythms_371 kxN (fun v w_5 H locs hq hP hD hS => ?_)
          refine W.widen (k := 1128) (n := 140526) (Nat.le_of_ble_eq_true rfl) (Nat.le_of_ble_eq_true rfl) ?_
          rw [hq.2] at hP hD
          rw [hq.1]
          dsimp only [Option.toList, List.cons_append, List.nil_append]
          refine r_if_eq (pc := 374) (a := 1) hx hb dL_rhythms_374 (tgt := 446) (by decide) ⟨by omega, by omega⟩ (fun c_374 => ?_) (fun c_374 => ?_)
          · exact absurd c_374 (by decide)
          · have c_374_ := c_374
            refine W.widen (k := 1128) (n := 140526) (Nat.le_of_ble_eq_true rfl) (Nat.le_of_ble_eq_true rfl) ?_
            exact hnx _ _ _ _ _ _ _ _ _ hC hE hQ _ _ _ _ hH hP hD hS (lv_sub hl [0] rfl)
set_option maxRecDepth 100000 in
set_option maxHeartbeats 8000000 in
theorem sR_7 (l : Launch) (ε : EV) (hst : l.stackTraces = false) {x : Nat}  (hnx : SEG l ε yL_rhythms cL_rhythms 2 rm_A_rhythms (fun v z => v = some (.int (iv 1))) 436 1168 140766 [(0, .ref x)] (fun z => HC ε x R15 z)) : SEG l ε yL_rhythms cL_rhythms 2 rm_A_rhythms (fun v z => v = some (.int (iv 1))) 377 1128 140526 [(0, .ref x)] (fun z => HC ε x R15 z) := by
  intro p9 e9 s9 m9 a9 bl9 me9 c9 Q9 hC hE hQ H locs ls w9 hH hP hD hS hl
  have hx := hC.1
  have hb := hC.2.1
  have hK := hE.K
  obtain ⟨fo, hob⟩ := hH.ob
  refine lv_aload_n (pc := 377) hx hb dL_rhythms_377 rfl (lv_at hl 0 rfl) ?_
  refine lv_iconst (pc := 378) (v := iv 5) hx hb dL_rhythms_378 rfl ?_
  refine lv_bipush (pc := 379) (v := iv 7) hx hb dL_rhythms_379 (by decide) ?_
  refine lv_iconst (pc := 381) (v := iv 0) hx hb dL_rhythms_381 rfl ?_
  refine c_callS (pc := 382) (y := yL_alike) (As := [.ref x, .int (iv 5), .int (iv 7), .int (iv 0)]) (rest := []) hC hE hP hD hS hl.1 (A_alike l ε hst hH 5 7 (by decide +kernel) (by decide +kernel) false (by decide +kernel) (by decide +kernel) (by decide +kernel) (by decide +kernel)) m_16_9 m_16_10 m_0_5 m_16_11 hd_yL_alike rfl ⟨⟨by decide, by decide⟩, (Nat.le_of_ble_eq_true rfl), (Nat.le_of_ble_eq_true rfl)⟩ (Nat.le_of_ble_eq_true rfl) rfl dL_rhythms_382 kxN (fun v w_1 H locs hq hP hD hS => ?_)
  refine W.widen (k := 1136) (n := 140574) (Nat.le_of_ble_eq_true rfl) (Nat.le_of_ble_eq_true rfl) ?_
  rw [hq.2] at hP hD
  rw [hq.1]
  dsimp only [Option.toList, List.cons_append, List.nil_append]
  refine r_if_eq (pc := 385) (a := 1) hx hb dL_rhythms_385 (tgt := 446) (by decide) ⟨by omega, by omega⟩ (fun c_385 => ?_) (fun c_385 => ?_)
  · exact absurd c_385 (by decide)
  · have c_385_ := c_385
    refine lv_aload_n (pc := 388) hx hb dL_rhythms_388 rfl (lv_at hl 0 rfl) ?_
    refine lv_bipush (pc := 389) (v := iv 8) hx hb dL_rhythms_389 (by decide) ?_
    refine lv_bipush (pc := 391) (v := iv 9) hx hb dL_rhythms_391 (by decide) ?_
    refine lv_iconst (pc := 393) (v := iv 1) hx hb dL_rhythms_393 rfl ?_
    refine c_callS (pc := 394) (y := yL_alike) (As := [.ref x, .int (iv 8), .int (iv 9), .int (iv 1)]) (rest := []) hC hE hP hD hS hl.1 (A_alike l ε hst hH 8 9 (by decide +kernel) (by decide +kernel) true (by decide +kernel) (by decide +kernel) (by decide +kernel) (by decide +kernel)) m_16_9 m_16_10 m_0_5 m_16_11 hd_yL_alike rfl ⟨⟨by decide, by decide⟩, (Nat.le_of_ble_eq_true rfl), (Nat.le_of_ble_eq_true rfl)⟩ (Nat.le_of_ble_eq_true rfl) rfl dL_rhythms_394 kxN (fun v w_2 H locs hq hP hD hS => ?_)
    refine W.widen (k := 1144) (n := 140622) (Nat.le_of_ble_eq_true rfl) (Nat.le_of_ble_eq_true rfl) ?_
    rw [hq.2] at hP hD
    rw [hq.1]
    dsimp only [Option.toList, List.cons_append, List.nil_append]
    refine r_if_eq (pc := 397) (a := 1) hx hb dL_rhythms_397 (tgt := 446) (by decide) ⟨by omega, by omega⟩ (fun c_397 => ?_) (fun c_397 => ?_)
    · exact absurd c_397 (by decide)
    · have c_397_ := c_397
      refine lv_aload_n (pc := 400) hx hb dL_rhythms_400 rfl (lv_at hl 0 rfl) ?_
      refine lv_bipush (pc := 401) (v := iv 8) hx hb dL_rhythms_401 (by decide) ?_
      refine lv_bipush (pc := 403) (v := iv 10) hx hb dL_rhythms_403 (by decide) ?_
      refine lv_iconst (pc := 405) (v := iv 0) hx hb dL_rhythms_405 rfl ?_
      refine c_callS (pc := 406) (y := yL_alike) (As := [.ref x, .int (iv 8), .int (iv 10), .int (iv 0)]) (rest := []) hC hE hP hD hS hl.1 (A_alike l ε hst hH 8 10 (by decide +kernel) (by decide +kernel) false (by decide +kernel) (by decide +kernel) (by decide +kernel) (by decide +kernel)) m_16_9 m_16_10 m_0_5 m_16_11 hd_yL_alike rfl ⟨⟨by decide, by decide⟩, (Nat.le_of_ble_eq_true rfl), (Nat.le_of_ble_eq_true rfl)⟩ (Nat.le_of_ble_eq_true rfl) rfl dL_rhythms_406 kxN (fun v w_3 H locs hq hP hD hS => ?_)
      refine W.widen (k := 1152) (n := 140670) (Nat.le_of_ble_eq_true rfl) (Nat.le_of_ble_eq_true rfl) ?_
      rw [hq.2] at hP hD
      rw [hq.1]
      dsimp only [Option.toList, List.cons_append, List.nil_append]
      refine r_if_eq (pc := 409) (a := 1) hx hb dL_rhythms_409 (tgt := 446) (by decide) ⟨by omega, by omega⟩ (fun c_409 => ?_) (fun c_409 => ?_)
      · exact absurd c_409 (by decide)
      · have c_409_ := c_409
        refine lv_aload_n (pc := 412) hx hb dL_rhythms_412 rfl (lv_at hl 0 rfl) ?_
        refine lv_bipush (pc := 413) (v := iv 9) hx hb dL_rhythms_413 (by decide) ?_
        refine lv_bipush (pc := 415) (v := iv 10) hx hb dL_rhythms_415 (by decide) ?_
        refine lv_iconst (pc := 417) (v := iv 0) hx hb dL_rhythms_417 rfl ?_
        refine c_callS (pc := 418) (y := yL_alike) (As := [.ref x, .int (iv 9), .int (iv 10), .int (iv 0)]) (rest := []) hC hE hP hD hS hl.1 (A_alike l ε hst hH 9 10 (by decide +kernel) (by decide +kernel) false (by decide +kernel) (by decide +kernel) (by decide +kernel) (by decide +kernel)) m_16_9 m_16_10 m_0_5 m_16_11 hd_yL_alike rfl ⟨⟨by decide, by decide⟩, (Nat.le_of_ble_eq_true rfl), (Nat.le_of_ble_eq_true rfl)⟩ (Nat.le_of_ble_eq_true rfl) rfl dL_rhythms_418 kxN (fun v w_4 H locs hq hP hD hS => ?_)
        refine W.widen (k := 1160) (n := 140718) (Nat.le_of_ble_eq_true rfl) (Nat.le_of_ble_eq_true rfl) ?_
        rw [hq.2] at hP hD
        rw [hq.1]
        dsimp only [Option.toList, List.cons_append, List.nil_append]
        refine r_if_eq (pc := 421) (a := 1) hx hb dL_rhythms_421 (tgt := 446) (by decide) ⟨by omega, by omega⟩ (fun c_421 => ?_) (fun c_421 => ?_)
        · exact absurd c_421 (by decide)
        · have c_421_ := c_421
          refine lv_aload_n (pc := 424) hx hb dL_rhythms_424 rfl (lv_at hl 0 rfl) ?_
          refine lv_bipush (pc := 425) (v := iv 11) hx hb dL_rhythms_425 (by decide) ?_
          refine lv_bipush (pc := 427) (v := iv 11) hx hb dL_rhythms_427 (by decide) ?_
          refine lv_iconst (pc := 429) (v := iv 1) hx hb dL_rhythms_429 rfl ?_
          refine c_callS (pc := 430) (y := yL_alike) (As := [.ref x, .int (iv 11), .int (iv 11), .int (iv 1)]) (rest := []) hC hE hP hD hS hl.1 (A_alike l ε hst hH 11 11 (by decide +kernel) (by decide +kernel) true (by decide +kernel) (by decide +kernel) (by decide +kernel) (by decide +kernel)) m_16_9 m_16_10 m_0_5 m_16_11 hd_yL_alike rfl ⟨⟨by decide, by decide⟩, (Nat.le_of_ble_eq_true rfl), (Nat.le_of_ble_eq_true rfl)⟩ (Nat.le_of_ble_eq_true rfl) rfl dL_rhythms_430 kxN (fun v w_5 H locs hq hP hD hS => ?_)
          refine W.widen (k := 1168) (n := 140766) (Nat.le_of_ble_eq_true rfl) (Nat.le_of_ble_eq_true rfl) ?_
          rw [hq.2] at hP hD
          rw [hq.1]
          dsimp only [Option.toList, List.cons_append, List.nil_append]
          refine r_if_eq (pc := 433) (a := 1) hx hb dL_rhythms_433 (tgt := 446) (by decide) ⟨by omega, by omega⟩ (fun c_433 => ?_) (fun c_433 => ?_)
          · exact absurd c_433 (by decide)
          · have c_433_ := c_433
            refine W.widen (k := 1168) (n := 140766) (Nat.le_of_ble_eq_true rfl) (Nat.le_of_ble_eq_true rfl) ?_
            exact hnx _ _ _ _ _ _ _ _ _ hC hE hQ _ _ _ _ hH hP hD hS (lv_sub hl [0] rfl)
set_option maxRecDepth 100000 in
set_option maxHeartbeats 8000000 in
theorem sR_8 (l : Launch) (ε : EV) (hst : l.stackTraces = false) {x : Nat}  (hnx : SEG l ε yL_rhythms cL_rhythms 2 rm_A_rhythms (fun v z => v = some (.int (iv 1))) 486 1180 140838 [(0, .ref x), (1, .int (iv 2))] (fun z => HC ε x R17 z)) : SEG l ε yL_rhythms cL_rhythms 2 rm_A_rhythms (fun v z => v = some (.int (iv 1))) 436 1168 140766 [(0, .ref x)] (fun z => HC ε x R15 z) := by
  intro p9 e9 s9 m9 a9 bl9 me9 c9 Q9 hC hE hQ H locs ls w9 hH hP hD hS hl
  have hx := hC.1
  have hb := hC.2.1
  have hK := hE.K
  obtain ⟨fo, hob⟩ := hH.ob
  refine lv_aload_n (pc := 436) hx hb dL_rhythms_436 rfl (lv_at hl 0 rfl) ?_
  refine lv_iconst (pc := 437) (v := iv 0) hx hb dL_rhythms_437 rfl ?_
  refine lv_iconst (pc := 438) (v := iv 5) hx hb dL_rhythms_438 rfl ?_
  refine lv_iconst (pc := 439) (v := iv 0) hx hb dL_rhythms_439 rfl ?_
  refine c_callS (pc := 440) (y := yL_alike) (As := [.ref x, .int (iv 0), .int (iv 5), .int (iv 0)]) (rest := []) hC hE hP hD hS hl.1 (A_alike l ε hst hH 0 5 (by decide +kernel) (by decide +kernel) false (by decide +kernel) (by decide +kernel) (by decide +kernel) (by decide +kernel)) m_16_9 m_16_10 m_0_5 m_16_11 hd_yL_alike rfl ⟨⟨by decide, by decide⟩, (Nat.le_of_ble_eq_true rfl), (Nat.le_of_ble_eq_true rfl)⟩ (Nat.le_of_ble_eq_true rfl) rfl dL_rhythms_440 kxN (fun v w_1 H locs hq hP hD hS => ?_)
  refine W.widen (k := 1176) (n := 140814) (Nat.le_of_ble_eq_true rfl) (Nat.le_of_ble_eq_true rfl) ?_
  rw [hq.2] at hP hD
  rw [hq.1]
  dsimp only [Option.toList, List.cons_append, List.nil_append]
  refine r_if_ne (pc := 443) (a := 1) hx hb dL_rhythms_443 (tgt := 448) (by decide) ⟨by omega, by omega⟩ (fun c_443 => ?_) (fun c_443 => ?_)
  · have c_443_ := c_443
    refine lv_iconst (pc := 448) (v := iv 1) hx hb dL_rhythms_448 rfl ?_
    refine lv_istore_n (lv' := [(1, .int (iv 1)), (0, .ref x)]) (pc := 449) hx hb dL_rhythms_449 rfl hl (by decide) rfl (fun ls hl => ?_)
    refine lv_iload_n (pc := 450) hx hb dL_rhythms_450 rfl (lv_at hl 0 rfl) ?_
    refine lv_bipush (pc := 451) (v := iv 8) hx hb dL_rhythms_451 (by decide) ?_
    refine r_icmp_ge (pc := 453) (a := 1) (b := 8) hx hb dL_rhythms_453 (tgt := 492) (by decide) ⟨by omega, by omega⟩ ⟨by omega, by omega⟩ (fun c_453 => ?_) (fun c_453 => ?_)
    · exact absurd c_453 (by decide)
    · have c_453_ := c_453
      refine lv_aload_n (pc := 456) hx hb dL_rhythms_456 rfl (lv_at hl 1 rfl) ?_
      refine lv_iconst (pc := 457) (v := iv 0) hx hb dL_rhythms_457 rfl ?_
      refine lv_iload_n (pc := 458) hx hb dL_rhythms_458 rfl (lv_at hl 0 rfl) ?_
      refine lv_bipush (pc := 459) (v := iv 9) hx hb dL_rhythms_459 (by decide) ?_
      refine r_irem (pc := 461) (a := 1) (b := 9) hx hb dL_rhythms_461 ⟨⟨by omega, by omega⟩, by omega, by omega⟩ ?_
      have hm_461 := Int.emod_nonneg 1 (show 9 ≠ 0 by omega)
      have hn_461 := Int.emod_lt_of_pos 1 (show 0 < 9 by omega)
      rw [show (1 % 9 : Int) = 1 by decide]
      refine lv_iconst (pc := 462) (v := iv 1) hx hb dL_rhythms_462 rfl ?_
      refine r_iadd (pc := 463) (a := 1) (b := 1) hx hb dL_rhythms_463 ?_
      rw [show (1 + 1 : Int) = 2 by decide]
      refine lv_iconst (pc := 464) (v := iv 0) hx hb dL_rhythms_464 rfl ?_
      refine lv_iconst (pc := 465) (v := iv 0) hx hb dL_rhythms_465 rfl ?_
      refine c_callSW (pc := 466) (y := yL_act) (As := [.ref x, .int (iv 0), .int (iv 2), .int (iv 0), .int (iv 0)]) (rest := []) hC hE hP hD hS hl.1 (A_phase_ok l ε hst hH 2 0 0 (by decide) (by decide) (by decide) (by decide +kernel)) m_4_18 m_4_19 m_0_5 m_4_20 hd_yL_act rfl ⟨⟨by decide, by decide⟩, (Nat.le_of_ble_eq_true rfl), (Nat.le_of_ble_eq_true rfl)⟩ (Nat.le_of_ble_eq_true rfl) rfl dL_rhythms_466 kxN (fun v w_2 H locs hq hP hD hS => ?_)
      refine W.widen (k := 1178) (n := 140826) (Nat.le_of_ble_eq_true rfl) (Nat.le_of_ble_eq_true rfl) ?_
      have hH : HC ε x R16 w_2 := hq.2.cv (S := R16) (by decide +kernel)
      obtain ⟨fo, hob⟩ := hH.ob
      rw [hq.1]
      dsimp only [Option.toList, List.cons_append, List.nil_append]
      rw [show nS R15 0 + 1 = 1 by decide +kernel]
      refine lv_iload_n (pc := 469) hx hb dL_rhythms_469 rfl (lv_at hl 0 rfl) ?_
      refine lv_bipush (pc := 470) (v := iv 7) hx hb dL_rhythms_470 (by decide) ?_
      refine r_icmp_ge (pc := 472) (a := 1) (b := 7) hx hb dL_rhythms_472 (tgt := 479) (by decide) ⟨by omega, by omega⟩ ⟨by omega, by omega⟩ (fun c_472 => ?_) (fun c_472 => ?_)
      · exact absurd c_472 (by decide)
      · have c_472_ := c_472
        refine lv_iload_n (pc := 475) hx hb dL_rhythms_475 rfl (lv_at hl 0 rfl) ?_
        refine lv_goto (pc := 476) (tgt := 481) hx hb dL_rhythms_476 (by decide) ?_
        refine r_icmp_eq (pc := 481) (a := 1) (b := 1) hx hb dL_rhythms_481 (tgt := 486) (by decide) ⟨by omega, by omega⟩ ⟨by omega, by omega⟩ (fun c_481 => ?_) (fun c_481 => ?_)
        · have c_481_ := c_481
          refine lv_iinc (v := iv (2)) (lv' := [(1, .int (iv 2)), (0, .ref x)]) (pc := 486) hx hb dL_rhythms_486 hl (k := 0) rfl (iv_add _ _) (by decide) rfl (fun ls hl => ?_)
          refine lv_goto (pc := 489) (tgt := 450) hx hb dL_rhythms_489 (by decide) ?_
          refine lv_iload_n (pc := 450) hx hb dL_rhythms_450 rfl (lv_at hl 0 rfl) ?_
          refine lv_bipush (pc := 451) (v := iv 8) hx hb dL_rhythms_451 (by decide) ?_
          refine r_icmp_ge (pc := 453) (a := 2) (b := 8) hx hb dL_rhythms_453 (tgt := 492) (by decide) ⟨by omega, by omega⟩ ⟨by omega, by omega⟩ (fun c_453 => ?_) (fun c_453 => ?_)
          · exact absurd c_453 (by decide)
          · have c_453_ := c_453
            refine lv_aload_n (pc := 456) hx hb dL_rhythms_456 rfl (lv_at hl 1 rfl) ?_
            refine lv_iconst (pc := 457) (v := iv 0) hx hb dL_rhythms_457 rfl ?_
            refine lv_iload_n (pc := 458) hx hb dL_rhythms_458 rfl (lv_at hl 0 rfl) ?_
            refine lv_bipush (pc := 459) (v := iv 9) hx hb dL_rhythms_459 (by decide) ?_
            refine r_irem (pc := 461) (a := 2) (b := 9) hx hb dL_rhythms_461 ⟨⟨by omega, by omega⟩, by omega, by omega⟩ ?_
            have hm_461 := Int.emod_nonneg 2 (show 9 ≠ 0 by omega)
            have hn_461 := Int.emod_lt_of_pos 2 (show 0 < 9 by omega)
            rw [show (2 % 9 : Int) = 2 by decide]
            refine lv_iconst (pc := 462) (v := iv 1) hx hb dL_rhythms_462 rfl ?_
            refine r_iadd (pc := 463) (a := 2) (b := 1) hx hb dL_rhythms_463 ?_
            rw [show (2 + 1 : Int) = 3 by decide]
            refine lv_iconst (pc := 464) (v := iv 0) hx hb dL_rhythms_464 rfl ?_
            refine lv_iconst (pc := 465) (v := iv 0) hx hb dL_rhythms_465 rfl ?_
            refine c_callSW (pc := 466) (y := yL_act) (As := [.ref x, .int (iv 0), .int (iv 3), .int (iv 0), .int (iv 0)]) (rest := []) hC hE hP hD hS hl.1 (A_phase_ok l ε hst hH 3 0 0 (by decide) (by decide) (by decide) (by decide +kernel)) m_4_18 m_4_19 m_0_5 m_4_20 hd_yL_act rfl ⟨⟨by decide, by decide⟩, (Nat.le_of_ble_eq_true rfl), (Nat.le_of_ble_eq_true rfl)⟩ (Nat.le_of_ble_eq_true rfl) rfl dL_rhythms_466 kxN (fun v w_3 H locs hq hP hD hS => ?_)
            refine W.widen (k := 1180) (n := 140838) (Nat.le_of_ble_eq_true rfl) (Nat.le_of_ble_eq_true rfl) ?_
            have hH : HC ε x R17 w_3 := hq.2.cv (S := R17) (by decide +kernel)
            obtain ⟨fo, hob⟩ := hH.ob
            rw [hq.1]
            dsimp only [Option.toList, List.cons_append, List.nil_append]
            rw [show nS R16 0 + 1 = 2 by decide +kernel]
            refine lv_iload_n (pc := 469) hx hb dL_rhythms_469 rfl (lv_at hl 0 rfl) ?_
            refine lv_bipush (pc := 470) (v := iv 7) hx hb dL_rhythms_470 (by decide) ?_
            refine r_icmp_ge (pc := 472) (a := 2) (b := 7) hx hb dL_rhythms_472 (tgt := 479) (by decide) ⟨by omega, by omega⟩ ⟨by omega, by omega⟩ (fun c_472 => ?_) (fun c_472 => ?_)
            · exact absurd c_472 (by decide)
            · have c_472_ := c_472
              refine lv_iload_n (pc := 475) hx hb dL_rhythms_475 rfl (lv_at hl 0 rfl) ?_
              refine lv_goto (pc := 476) (tgt := 481) hx hb dL_rhythms_476 (by decide) ?_
              refine r_icmp_eq (pc := 481) (a := 2) (b := 2) hx hb dL_rhythms_481 (tgt := 486) (by decide) ⟨by omega, by omega⟩ ⟨by omega, by omega⟩ (fun c_481 => ?_) (fun c_481 => ?_)
              · have c_481_ := c_481
                refine W.widen (k := 1180) (n := 140838) (Nat.le_of_ble_eq_true rfl) (Nat.le_of_ble_eq_true rfl) ?_
                exact hnx _ _ _ _ _ _ _ _ _ hC hE hQ _ _ _ _ hH hP hD hS (lv_sub hl [1, 0] rfl)
              · exact absurd c_481 (by decide)
        · exact absurd c_481 (by decide)
  · exact absurd c_443 (by decide)
set_option maxRecDepth 100000 in
set_option maxHeartbeats 8000000 in
theorem sR_9 (l : Launch) (ε : EV) (hst : l.stackTraces = false) {x : Nat}  (hnx : SEG l ε yL_rhythms cL_rhythms 2 rm_A_rhythms (fun v z => v = some (.int (iv 1))) 486 1184 140862 [(0, .ref x), (1, .int (iv 4))] (fun z => HC ε x R19 z)) : SEG l ε yL_rhythms cL_rhythms 2 rm_A_rhythms (fun v z => v = some (.int (iv 1))) 486 1180 140838 [(0, .ref x), (1, .int (iv 2))] (fun z => HC ε x R17 z) := by
  intro p9 e9 s9 m9 a9 bl9 me9 c9 Q9 hC hE hQ H locs ls w9 hH hP hD hS hl
  have hx := hC.1
  have hb := hC.2.1
  have hK := hE.K
  obtain ⟨fo, hob⟩ := hH.ob
  refine lv_iinc (v := iv (3)) (lv' := [(1, .int (iv 3)), (0, .ref x)]) (pc := 486) hx hb dL_rhythms_486 hl (k := 1) rfl (iv_add _ _) (by decide) rfl (fun ls hl => ?_)
  refine lv_goto (pc := 489) (tgt := 450) hx hb dL_rhythms_489 (by decide) ?_
  refine lv_iload_n (pc := 450) hx hb dL_rhythms_450 rfl (lv_at hl 0 rfl) ?_
  refine lv_bipush (pc := 451) (v := iv 8) hx hb dL_rhythms_451 (by decide) ?_
  refine r_icmp_ge (pc := 453) (a := 3) (b := 8) hx hb dL_rhythms_453 (tgt := 492) (by decide) ⟨by omega, by omega⟩ ⟨by omega, by omega⟩ (fun c_453 => ?_) (fun c_453 => ?_)
  · exact absurd c_453 (by decide)
  · have c_453_ := c_453
    refine lv_aload_n (pc := 456) hx hb dL_rhythms_456 rfl (lv_at hl 1 rfl) ?_
    refine lv_iconst (pc := 457) (v := iv 0) hx hb dL_rhythms_457 rfl ?_
    refine lv_iload_n (pc := 458) hx hb dL_rhythms_458 rfl (lv_at hl 0 rfl) ?_
    refine lv_bipush (pc := 459) (v := iv 9) hx hb dL_rhythms_459 (by decide) ?_
    refine r_irem (pc := 461) (a := 3) (b := 9) hx hb dL_rhythms_461 ⟨⟨by omega, by omega⟩, by omega, by omega⟩ ?_
    have hm_461 := Int.emod_nonneg 3 (show 9 ≠ 0 by omega)
    have hn_461 := Int.emod_lt_of_pos 3 (show 0 < 9 by omega)
    rw [show (3 % 9 : Int) = 3 by decide]
    refine lv_iconst (pc := 462) (v := iv 1) hx hb dL_rhythms_462 rfl ?_
    refine r_iadd (pc := 463) (a := 3) (b := 1) hx hb dL_rhythms_463 ?_
    rw [show (3 + 1 : Int) = 4 by decide]
    refine lv_iconst (pc := 464) (v := iv 0) hx hb dL_rhythms_464 rfl ?_
    refine lv_iconst (pc := 465) (v := iv 0) hx hb dL_rhythms_465 rfl ?_
    refine c_callSW (pc := 466) (y := yL_act) (As := [.ref x, .int (iv 0), .int (iv 4), .int (iv 0), .int (iv 0)]) (rest := []) hC hE hP hD hS hl.1 (A_phase_ok l ε hst hH 4 0 0 (by decide) (by decide) (by decide) (by decide +kernel)) m_4_18 m_4_19 m_0_5 m_4_20 hd_yL_act rfl ⟨⟨by decide, by decide⟩, (Nat.le_of_ble_eq_true rfl), (Nat.le_of_ble_eq_true rfl)⟩ (Nat.le_of_ble_eq_true rfl) rfl dL_rhythms_466 kxN (fun v w_1 H locs hq hP hD hS => ?_)
    refine W.widen (k := 1182) (n := 140850) (Nat.le_of_ble_eq_true rfl) (Nat.le_of_ble_eq_true rfl) ?_
    have hH : HC ε x R18 w_1 := hq.2.cv (S := R18) (by decide +kernel)
    obtain ⟨fo, hob⟩ := hH.ob
    rw [hq.1]
    dsimp only [Option.toList, List.cons_append, List.nil_append]
    rw [show nS R17 0 + 1 = 3 by decide +kernel]
    refine lv_iload_n (pc := 469) hx hb dL_rhythms_469 rfl (lv_at hl 0 rfl) ?_
    refine lv_bipush (pc := 470) (v := iv 7) hx hb dL_rhythms_470 (by decide) ?_
    refine r_icmp_ge (pc := 472) (a := 3) (b := 7) hx hb dL_rhythms_472 (tgt := 479) (by decide) ⟨by omega, by omega⟩ ⟨by omega, by omega⟩ (fun c_472 => ?_) (fun c_472 => ?_)
    · exact absurd c_472 (by decide)
    · have c_472_ := c_472
      refine lv_iload_n (pc := 475) hx hb dL_rhythms_475 rfl (lv_at hl 0 rfl) ?_
      refine lv_goto (pc := 476) (tgt := 481) hx hb dL_rhythms_476 (by decide) ?_
      refine r_icmp_eq (pc := 481) (a := 3) (b := 3) hx hb dL_rhythms_481 (tgt := 486) (by decide) ⟨by omega, by omega⟩ ⟨by omega, by omega⟩ (fun c_481 => ?_) (fun c_481 => ?_)
      · have c_481_ := c_481
        refine lv_iinc (v := iv (4)) (lv' := [(1, .int (iv 4)), (0, .ref x)]) (pc := 486) hx hb dL_rhythms_486 hl (k := 0) rfl (iv_add _ _) (by decide) rfl (fun ls hl => ?_)
        refine lv_goto (pc := 489) (tgt := 450) hx hb dL_rhythms_489 (by decide) ?_
        refine lv_iload_n (pc := 450) hx hb dL_rhythms_450 rfl (lv_at hl 0 rfl) ?_
        refine lv_bipush (pc := 451) (v := iv 8) hx hb dL_rhythms_451 (by decide) ?_
        refine r_icmp_ge (pc := 453) (a := 4) (b := 8) hx hb dL_rhythms_453 (tgt := 492) (by decide) ⟨by omega, by omega⟩ ⟨by omega, by omega⟩ (fun c_453 => ?_) (fun c_453 => ?_)
        · exact absurd c_453 (by decide)
        · have c_453_ := c_453
          refine lv_aload_n (pc := 456) hx hb dL_rhythms_456 rfl (lv_at hl 1 rfl) ?_
          refine lv_iconst (pc := 457) (v := iv 0) hx hb dL_rhythms_457 rfl ?_
          refine lv_iload_n (pc := 458) hx hb dL_rhythms_458 rfl (lv_at hl 0 rfl) ?_
          refine lv_bipush (pc := 459) (v := iv 9) hx hb dL_rhythms_459 (by decide) ?_
          refine r_irem (pc := 461) (a := 4) (b := 9) hx hb dL_rhythms_461 ⟨⟨by omega, by omega⟩, by omega, by omega⟩ ?_
          have hm_461 := Int.emod_nonneg 4 (show 9 ≠ 0 by omega)
          have hn_461 := Int.emod_lt_of_pos 4 (show 0 < 9 by omega)
          rw [show (4 % 9 : Int) = 4 by decide]
          refine lv_iconst (pc := 462) (v := iv 1) hx hb dL_rhythms_462 rfl ?_
          refine r_iadd (pc := 463) (a := 4) (b := 1) hx hb dL_rhythms_463 ?_
          rw [show (4 + 1 : Int) = 5 by decide]
          refine lv_iconst (pc := 464) (v := iv 0) hx hb dL_rhythms_464 rfl ?_
          refine lv_iconst (pc := 465) (v := iv 0) hx hb dL_rhythms_465 rfl ?_
          refine c_callSW (pc := 466) (y := yL_act) (As := [.ref x, .int (iv 0), .int (iv 5), .int (iv 0), .int (iv 0)]) (rest := []) hC hE hP hD hS hl.1 (A_phase_ok l ε hst hH 5 0 0 (by decide) (by decide) (by decide) (by decide +kernel)) m_4_18 m_4_19 m_0_5 m_4_20 hd_yL_act rfl ⟨⟨by decide, by decide⟩, (Nat.le_of_ble_eq_true rfl), (Nat.le_of_ble_eq_true rfl)⟩ (Nat.le_of_ble_eq_true rfl) rfl dL_rhythms_466 kxN (fun v w_2 H locs hq hP hD hS => ?_)
          refine W.widen (k := 1184) (n := 140862) (Nat.le_of_ble_eq_true rfl) (Nat.le_of_ble_eq_true rfl) ?_
          have hH : HC ε x R19 w_2 := hq.2.cv (S := R19) (by decide +kernel)
          obtain ⟨fo, hob⟩ := hH.ob
          rw [hq.1]
          dsimp only [Option.toList, List.cons_append, List.nil_append]
          rw [show nS R18 0 + 1 = 4 by decide +kernel]
          refine lv_iload_n (pc := 469) hx hb dL_rhythms_469 rfl (lv_at hl 0 rfl) ?_
          refine lv_bipush (pc := 470) (v := iv 7) hx hb dL_rhythms_470 (by decide) ?_
          refine r_icmp_ge (pc := 472) (a := 4) (b := 7) hx hb dL_rhythms_472 (tgt := 479) (by decide) ⟨by omega, by omega⟩ ⟨by omega, by omega⟩ (fun c_472 => ?_) (fun c_472 => ?_)
          · exact absurd c_472 (by decide)
          · have c_472_ := c_472
            refine lv_iload_n (pc := 475) hx hb dL_rhythms_475 rfl (lv_at hl 0 rfl) ?_
            refine lv_goto (pc := 476) (tgt := 481) hx hb dL_rhythms_476 (by decide) ?_
            refine r_icmp_eq (pc := 481) (a := 4) (b := 4) hx hb dL_rhythms_481 (tgt := 486) (by decide) ⟨by omega, by omega⟩ ⟨by omega, by omega⟩ (fun c_481 => ?_) (fun c_481 => ?_)
            · have c_481_ := c_481
              refine W.widen (k := 1184) (n := 140862) (Nat.le_of_ble_eq_true rfl) (Nat.le_of_ble_eq_true rfl) ?_
              exact hnx _ _ _ _ _ _ _ _ _ hC hE hQ _ _ _ _ hH hP hD hS (lv_sub hl [1, 0] rfl)
            · exact absurd c_481 (by decide)
      · exact absurd c_481 (by decide)
set_option maxRecDepth 100000 in
set_option maxHeartbeats 8000000 in
theorem sR_10 (l : Launch) (ε : EV) (hst : l.stackTraces = false) {x : Nat}  (hnx : SEG l ε yL_rhythms cL_rhythms 2 rm_A_rhythms (fun v z => v = some (.int (iv 1))) 486 1188 140886 [(0, .ref x), (1, .int (iv 6))] (fun z => HC ε x R21 z)) : SEG l ε yL_rhythms cL_rhythms 2 rm_A_rhythms (fun v z => v = some (.int (iv 1))) 486 1184 140862 [(0, .ref x), (1, .int (iv 4))] (fun z => HC ε x R19 z) := by
  intro p9 e9 s9 m9 a9 bl9 me9 c9 Q9 hC hE hQ H locs ls w9 hH hP hD hS hl
  have hx := hC.1
  have hb := hC.2.1
  have hK := hE.K
  obtain ⟨fo, hob⟩ := hH.ob
  refine lv_iinc (v := iv (5)) (lv' := [(1, .int (iv 5)), (0, .ref x)]) (pc := 486) hx hb dL_rhythms_486 hl (k := 1) rfl (iv_add _ _) (by decide) rfl (fun ls hl => ?_)
  refine lv_goto (pc := 489) (tgt := 450) hx hb dL_rhythms_489 (by decide) ?_
  refine lv_iload_n (pc := 450) hx hb dL_rhythms_450 rfl (lv_at hl 0 rfl) ?_
  refine lv_bipush (pc := 451) (v := iv 8) hx hb dL_rhythms_451 (by decide) ?_
  refine r_icmp_ge (pc := 453) (a := 5) (b := 8) hx hb dL_rhythms_453 (tgt := 492) (by decide) ⟨by omega, by omega⟩ ⟨by omega, by omega⟩ (fun c_453 => ?_) (fun c_453 => ?_)
  · exact absurd c_453 (by decide)
  · have c_453_ := c_453
    refine lv_aload_n (pc := 456) hx hb dL_rhythms_456 rfl (lv_at hl 1 rfl) ?_
    refine lv_iconst (pc := 457) (v := iv 0) hx hb dL_rhythms_457 rfl ?_
    refine lv_iload_n (pc := 458) hx hb dL_rhythms_458 rfl (lv_at hl 0 rfl) ?_
    refine lv_bipush (pc := 459) (v := iv 9) hx hb dL_rhythms_459 (by decide) ?_
    refine r_irem (pc := 461) (a := 5) (b := 9) hx hb dL_rhythms_461 ⟨⟨by omega, by omega⟩, by omega, by omega⟩ ?_
    have hm_461 := Int.emod_nonneg 5 (show 9 ≠ 0 by omega)
    have hn_461 := Int.emod_lt_of_pos 5 (show 0 < 9 by omega)
    rw [show (5 % 9 : Int) = 5 by decide]
    refine lv_iconst (pc := 462) (v := iv 1) hx hb dL_rhythms_462 rfl ?_
    refine r_iadd (pc := 463) (a := 5) (b := 1) hx hb dL_rhythms_463 ?_
    rw [show (5 + 1 : Int) = 6 by decide]
    refine lv_iconst (pc := 464) (v := iv 0) hx hb dL_rhythms_464 rfl ?_
    refine lv_iconst (pc := 465) (v := iv 0) hx hb dL_rhythms_465 rfl ?_
    refine c_callSW (pc := 466) (y := yL_act) (As := [.ref x, .int (iv 0), .int (iv 6), .int (iv 0), .int (iv 0)]) (rest := []) hC hE hP hD hS hl.1 (A_phase_ok l ε hst hH 6 0 0 (by decide) (by decide) (by decide) (by decide +kernel)) m_4_18 m_4_19 m_0_5 m_4_20 hd_yL_act rfl ⟨⟨by decide, by decide⟩, (Nat.le_of_ble_eq_true rfl), (Nat.le_of_ble_eq_true rfl)⟩ (Nat.le_of_ble_eq_true rfl) rfl dL_rhythms_466 kxN (fun v w_1 H locs hq hP hD hS => ?_)
    refine W.widen (k := 1186) (n := 140874) (Nat.le_of_ble_eq_true rfl) (Nat.le_of_ble_eq_true rfl) ?_
    have hH : HC ε x R20 w_1 := hq.2.cv (S := R20) (by decide +kernel)
    obtain ⟨fo, hob⟩ := hH.ob
    rw [hq.1]
    dsimp only [Option.toList, List.cons_append, List.nil_append]
    rw [show nS R19 0 + 1 = 5 by decide +kernel]
    refine lv_iload_n (pc := 469) hx hb dL_rhythms_469 rfl (lv_at hl 0 rfl) ?_
    refine lv_bipush (pc := 470) (v := iv 7) hx hb dL_rhythms_470 (by decide) ?_
    refine r_icmp_ge (pc := 472) (a := 5) (b := 7) hx hb dL_rhythms_472 (tgt := 479) (by decide) ⟨by omega, by omega⟩ ⟨by omega, by omega⟩ (fun c_472 => ?_) (fun c_472 => ?_)
    · exact absurd c_472 (by decide)
    · have c_472_ := c_472
      refine lv_iload_n (pc := 475) hx hb dL_rhythms_475 rfl (lv_at hl 0 rfl) ?_
      refine lv_goto (pc := 476) (tgt := 481) hx hb dL_rhythms_476 (by decide) ?_
      refine r_icmp_eq (pc := 481) (a := 5) (b := 5) hx hb dL_rhythms_481 (tgt := 486) (by decide) ⟨by omega, by omega⟩ ⟨by omega, by omega⟩ (fun c_481 => ?_) (fun c_481 => ?_)
      · have c_481_ := c_481
        refine lv_iinc (v := iv (6)) (lv' := [(1, .int (iv 6)), (0, .ref x)]) (pc := 486) hx hb dL_rhythms_486 hl (k := 0) rfl (iv_add _ _) (by decide) rfl (fun ls hl => ?_)
        refine lv_goto (pc := 489) (tgt := 450) hx hb dL_rhythms_489 (by decide) ?_
        refine lv_iload_n (pc := 450) hx hb dL_rhythms_450 rfl (lv_at hl 0 rfl) ?_
        refine lv_bipush (pc := 451) (v := iv 8) hx hb dL_rhythms_451 (by decide) ?_
        refine r_icmp_ge (pc := 453) (a := 6) (b := 8) hx hb dL_rhythms_453 (tgt := 492) (by decide) ⟨by omega, by omega⟩ ⟨by omega, by omega⟩ (fun c_453 => ?_) (fun c_453 => ?_)
        · exact absurd c_453 (by decide)
        · have c_453_ := c_453
          refine lv_aload_n (pc := 456) hx hb dL_rhythms_456 rfl (lv_at hl 1 rfl) ?_
          refine lv_iconst (pc := 457) (v := iv 0) hx hb dL_rhythms_457 rfl ?_
          refine lv_iload_n (pc := 458) hx hb dL_rhythms_458 rfl (lv_at hl 0 rfl) ?_
          refine lv_bipush (pc := 459) (v := iv 9) hx hb dL_rhythms_459 (by decide) ?_
          refine r_irem (pc := 461) (a := 6) (b := 9) hx hb dL_rhythms_461 ⟨⟨by omega, by omega⟩, by omega, by omega⟩ ?_
          have hm_461 := Int.emod_nonneg 6 (show 9 ≠ 0 by omega)
          have hn_461 := Int.emod_lt_of_pos 6 (show 0 < 9 by omega)
          rw [show (6 % 9 : Int) = 6 by decide]
          refine lv_iconst (pc := 462) (v := iv 1) hx hb dL_rhythms_462 rfl ?_
          refine r_iadd (pc := 463) (a := 6) (b := 1) hx hb dL_rhythms_463 ?_
          rw [show (6 + 1 : Int) = 7 by decide]
          refine lv_iconst (pc := 464) (v := iv 0) hx hb dL_rhythms_464 rfl ?_
          refine lv_iconst (pc := 465) (v := iv 0) hx hb dL_rhythms_465 rfl ?_
          refine c_callSW (pc := 466) (y := yL_act) (As := [.ref x, .int (iv 0), .int (iv 7), .int (iv 0), .int (iv 0)]) (rest := []) hC hE hP hD hS hl.1 (A_phase_ok l ε hst hH 7 0 0 (by decide) (by decide) (by decide) (by decide +kernel)) m_4_18 m_4_19 m_0_5 m_4_20 hd_yL_act rfl ⟨⟨by decide, by decide⟩, (Nat.le_of_ble_eq_true rfl), (Nat.le_of_ble_eq_true rfl)⟩ (Nat.le_of_ble_eq_true rfl) rfl dL_rhythms_466 kxN (fun v w_2 H locs hq hP hD hS => ?_)
          refine W.widen (k := 1188) (n := 140886) (Nat.le_of_ble_eq_true rfl) (Nat.le_of_ble_eq_true rfl) ?_
          have hH : HC ε x R21 w_2 := hq.2.cv (S := R21) (by decide +kernel)
          obtain ⟨fo, hob⟩ := hH.ob
          rw [hq.1]
          dsimp only [Option.toList, List.cons_append, List.nil_append]
          rw [show nS R20 0 + 1 = 6 by decide +kernel]
          refine lv_iload_n (pc := 469) hx hb dL_rhythms_469 rfl (lv_at hl 0 rfl) ?_
          refine lv_bipush (pc := 470) (v := iv 7) hx hb dL_rhythms_470 (by decide) ?_
          refine r_icmp_ge (pc := 472) (a := 6) (b := 7) hx hb dL_rhythms_472 (tgt := 479) (by decide) ⟨by omega, by omega⟩ ⟨by omega, by omega⟩ (fun c_472 => ?_) (fun c_472 => ?_)
          · exact absurd c_472 (by decide)
          · have c_472_ := c_472
            refine lv_iload_n (pc := 475) hx hb dL_rhythms_475 rfl (lv_at hl 0 rfl) ?_
            refine lv_goto (pc := 476) (tgt := 481) hx hb dL_rhythms_476 (by decide) ?_
            refine r_icmp_eq (pc := 481) (a := 6) (b := 6) hx hb dL_rhythms_481 (tgt := 486) (by decide) ⟨by omega, by omega⟩ ⟨by omega, by omega⟩ (fun c_481 => ?_) (fun c_481 => ?_)
            · have c_481_ := c_481
              refine W.widen (k := 1188) (n := 140886) (Nat.le_of_ble_eq_true rfl) (Nat.le_of_ble_eq_true rfl) ?_
              exact hnx _ _ _ _ _ _ _ _ _ hC hE hQ _ _ _ _ hH hP hD hS (lv_sub hl [1, 0] rfl)
            · exact absurd c_481 (by decide)
      · exact absurd c_481 (by decide)
set_option maxRecDepth 100000 in
set_option maxHeartbeats 8000000 in
theorem sR_11 (l : Launch) (ε : EV) (hst : l.stackTraces = false) {x : Nat}  (hnx : SEG l ε yL_rhythms cL_rhythms 2 rm_A_rhythms (fun v z => v = some (.int (iv 1))) 512 1196 144004 [(0, .ref x), (1, .int (iv 8))] (fun z => HC ε x R22 z)) : SEG l ε yL_rhythms cL_rhythms 2 rm_A_rhythms (fun v z => v = some (.int (iv 1))) 486 1188 140886 [(0, .ref x), (1, .int (iv 6))] (fun z => HC ε x R21 z) := by
  intro p9 e9 s9 m9 a9 bl9 me9 c9 Q9 hC hE hQ H locs ls w9 hH hP hD hS hl
  have hx := hC.1
  have hb := hC.2.1
  have hK := hE.K
  obtain ⟨fo, hob⟩ := hH.ob
  refine lv_iinc (v := iv (7)) (lv' := [(1, .int (iv 7)), (0, .ref x)]) (pc := 486) hx hb dL_rhythms_486 hl (k := 1) rfl (iv_add _ _) (by decide) rfl (fun ls hl => ?_)
  refine lv_goto (pc := 489) (tgt := 450) hx hb dL_rhythms_489 (by decide) ?_
  refine lv_iload_n (pc := 450) hx hb dL_rhythms_450 rfl (lv_at hl 0 rfl) ?_
  refine lv_bipush (pc := 451) (v := iv 8) hx hb dL_rhythms_451 (by decide) ?_
  refine r_icmp_ge (pc := 453) (a := 7) (b := 8) hx hb dL_rhythms_453 (tgt := 492) (by decide) ⟨by omega, by omega⟩ ⟨by omega, by omega⟩ (fun c_453 => ?_) (fun c_453 => ?_)
  · exact absurd c_453 (by decide)
  · have c_453_ := c_453
    refine lv_aload_n (pc := 456) hx hb dL_rhythms_456 rfl (lv_at hl 1 rfl) ?_
    refine lv_iconst (pc := 457) (v := iv 0) hx hb dL_rhythms_457 rfl ?_
    refine lv_iload_n (pc := 458) hx hb dL_rhythms_458 rfl (lv_at hl 0 rfl) ?_
    refine lv_bipush (pc := 459) (v := iv 9) hx hb dL_rhythms_459 (by decide) ?_
    refine r_irem (pc := 461) (a := 7) (b := 9) hx hb dL_rhythms_461 ⟨⟨by omega, by omega⟩, by omega, by omega⟩ ?_
    have hm_461 := Int.emod_nonneg 7 (show 9 ≠ 0 by omega)
    have hn_461 := Int.emod_lt_of_pos 7 (show 0 < 9 by omega)
    rw [show (7 % 9 : Int) = 7 by decide]
    refine lv_iconst (pc := 462) (v := iv 1) hx hb dL_rhythms_462 rfl ?_
    refine r_iadd (pc := 463) (a := 7) (b := 1) hx hb dL_rhythms_463 ?_
    rw [show (7 + 1 : Int) = 8 by decide]
    refine lv_iconst (pc := 464) (v := iv 0) hx hb dL_rhythms_464 rfl ?_
    refine lv_iconst (pc := 465) (v := iv 0) hx hb dL_rhythms_465 rfl ?_
    refine c_callSW (pc := 466) (y := yL_act) (As := [.ref x, .int (iv 0), .int (iv 8), .int (iv 0), .int (iv 0)]) (rest := []) hC hE hP hD hS hl.1 (A_phase_is l ε hst hH 8 0 0 (by decide) (by decide) (by decide) (by decide +kernel)) m_4_18 m_4_19 m_0_5 m_4_20 hd_yL_act rfl ⟨⟨by decide, by decide⟩, (Nat.le_of_ble_eq_true rfl), (Nat.le_of_ble_eq_true rfl)⟩ (Nat.le_of_ble_eq_true rfl) rfl dL_rhythms_466 kxN (fun v w_1 H locs hq hP hD hS => ?_)
    refine W.widen (k := 1190) (n := 140898) (Nat.le_of_ble_eq_true rfl) (Nat.le_of_ble_eq_true rfl) ?_
    rw [hq.2] at hP hD
    rw [hq.1]
    dsimp only [Option.toList, List.cons_append, List.nil_append]
    refine lv_iload_n (pc := 469) hx hb dL_rhythms_469 rfl (lv_at hl 0 rfl) ?_
    refine lv_bipush (pc := 470) (v := iv 7) hx hb dL_rhythms_470 (by decide) ?_
    refine r_icmp_ge (pc := 472) (a := 7) (b := 7) hx hb dL_rhythms_472 (tgt := 479) (by decide) ⟨by omega, by omega⟩ ⟨by omega, by omega⟩ (fun c_472 => ?_) (fun c_472 => ?_)
    · have c_472_ := c_472
      refine lv_bipush (pc := 479) (v := iv (-73)) hx hb dL_rhythms_479 (by decide) ?_
      refine r_icmp_eq (pc := 481) (a := (-73)) (b := (-73)) hx hb dL_rhythms_481 (tgt := 486) (by decide) ⟨by omega, by omega⟩ ⟨by omega, by omega⟩ (fun c_481 => ?_) (fun c_481 => ?_)
      · have c_481_ := c_481
        refine lv_iinc (v := iv (8)) (lv' := [(1, .int (iv 8)), (0, .ref x)]) (pc := 486) hx hb dL_rhythms_486 hl (k := 0) rfl (iv_add _ _) (by decide) rfl (fun ls hl => ?_)
        refine lv_goto (pc := 489) (tgt := 450) hx hb dL_rhythms_489 (by decide) ?_
        refine lv_iload_n (pc := 450) hx hb dL_rhythms_450 rfl (lv_at hl 0 rfl) ?_
        refine lv_bipush (pc := 451) (v := iv 8) hx hb dL_rhythms_451 (by decide) ?_
        refine r_icmp_ge (pc := 453) (a := 8) (b := 8) hx hb dL_rhythms_453 (tgt := 492) (by decide) ⟨by omega, by omega⟩ ⟨by omega, by omega⟩ (fun c_453 => ?_) (fun c_453 => ?_)
        · have c_453_ := c_453
          refine lv_aload_n (pc := 492) hx hb dL_rhythms_492 rfl (lv_at hl 1 rfl) ?_
          refine c_callV (pc := 493) (y := yX4_pattern) (As := []) (rest := []) hC hE hP hD hS hl.1 (K_pattern l ε hst hH  (by decide +kernel) (by decide +kernel)) m_5_10 m_5_11 m_5_12 m_0_2 m_5_13 hob rfl hd_yX4_pattern rfl ⟨⟨by decide, by decide⟩, (Nat.le_of_ble_eq_true rfl), (Nat.le_of_ble_eq_true rfl)⟩ (Nat.le_of_ble_eq_true rfl) rfl dL_rhythms_493 kxN (fun v w_2 H locs hq hP hD hS => ?_)
          refine W.widen (k := 1195) (n := 143998) (Nat.le_of_ble_eq_true rfl) (Nat.le_of_ble_eq_true rfl) ?_
          have hH : HC ε x R22 w_2 := hq.2.cv (S := R22) (by decide +kernel)
          obtain ⟨fo, hob⟩ := hH.ob
          rw [hq.1]
          dsimp only [Option.toList, List.cons_append, List.nil_append]
          rw [show nS R21 1 = 14 by decide +kernel]
          refine lv_bipush (pc := 496) (v := iv 14) hx hb dL_rhythms_496 (by decide) ?_
          refine r_icmp_ne (pc := 498) (a := 14) (b := 14) hx hb dL_rhythms_498 (tgt := 570) (by decide) ⟨by omega, by omega⟩ ⟨by omega, by omega⟩ (fun c_498 => ?_) (fun c_498 => ?_)
          · exact absurd c_498 (by decide)
          · have c_498_ := c_498
            refine lv_aload_n (pc := 501) hx hb dL_rhythms_501 rfl (lv_at hl 1 rfl) ?_
            refine lv_bipush (pc := 502) (v := iv 14) hx hb dL_rhythms_502 (by decide) ?_
            refine c_callV (pc := 504) (y := yX4_period) (As := [.int (iv 14)]) (rest := []) hC hE hP hD hS hl.1 (K_period l ε hst hH 14 (by decide +kernel)) m_8_15 m_8_16 m_8_17 m_0_2 m_8_18 hob rfl hd_yX4_period rfl ⟨⟨by decide, by decide⟩, (Nat.le_of_ble_eq_true rfl), (Nat.le_of_ble_eq_true rfl)⟩ (Nat.le_of_ble_eq_true rfl) rfl dL_rhythms_504 kxN (fun v w_3 H locs hq hP hD hS => ?_)
            refine W.widen (k := 1196) (n := 144004) (Nat.le_of_ble_eq_true rfl) (Nat.le_of_ble_eq_true rfl) ?_
            rw [hq.2] at hP hD
            rw [hq.1]
            dsimp only [Option.toList, List.cons_append, List.nil_append]
            rw [show gS R22 3 (14 : Int).toNat = 27 by decide +kernel]
            refine lv_bipush (pc := 507) (v := iv 27) hx hb dL_rhythms_507 (by decide) ?_
            refine r_icmp_ne (pc := 509) (a := 27) (b := 27) hx hb dL_rhythms_509 (tgt := 570) (by decide) ⟨by omega, by omega⟩ ⟨by omega, by omega⟩ (fun c_509 => ?_) (fun c_509 => ?_)
            · exact absurd c_509 (by decide)
            · have c_509_ := c_509
              refine W.widen (k := 1196) (n := 144004) (Nat.le_of_ble_eq_true rfl) (Nat.le_of_ble_eq_true rfl) ?_
              exact hnx _ _ _ _ _ _ _ _ _ hC hE hQ _ _ _ _ hH hP hD hS (lv_sub hl [1, 0] rfl)
        · exact absurd c_453 (by decide)
      · exact absurd c_481 (by decide)
    · exact absurd c_472 (by decide)
set_option maxRecDepth 100000 in
set_option maxHeartbeats 8000000 in
theorem sR_12 (l : Launch) (ε : EV) (hst : l.stackTraces = false) {x : Nat}  (hnx : SEG l ε yL_rhythms cL_rhythms 2 rm_A_rhythms (fun v z => v = some (.int (iv 1))) 561 1209 147152 [(0, .ref x), (1, .int (iv 8))] (fun z => HC ε x R26 z)) : SEG l ε yL_rhythms cL_rhythms 2 rm_A_rhythms (fun v z => v = some (.int (iv 1))) 512 1196 144004 [(0, .ref x), (1, .int (iv 8))] (fun z => HC ε x R22 z) := by
  intro p9 e9 s9 m9 a9 bl9 me9 c9 Q9 hC hE hQ H locs ls w9 hH hP hD hS hl
  have hx := hC.1
  have hb := hC.2.1
  have hK := hE.K
  obtain ⟨fo, hob⟩ := hH.ob
  refine lv_aload_n (pc := 512) hx hb dL_rhythms_512 rfl (lv_at hl 0 rfl) ?_
  refine lv_iconst (pc := 513) (v := iv 1) hx hb dL_rhythms_513 rfl ?_
  refine c_callV (pc := 514) (y := yX4_phase) (As := [.int (iv 1)]) (rest := []) hC hE hP hD hS hl.1 (K_phase l ε hst hH 1 (by decide +kernel) (by decide +kernel)) m_4_24 m_5_0 m_5_1 m_0_2 m_5_2 hob rfl hd_yX4_phase rfl ⟨⟨by decide, by decide⟩, (Nat.le_of_ble_eq_true rfl), (Nat.le_of_ble_eq_true rfl)⟩ (Nat.le_of_ble_eq_true rfl) rfl dL_rhythms_514 kxN (fun v w_1 H locs hq hP hD hS => ?_)
  refine W.widen (k := 1198) (n := 144016) (Nat.le_of_ble_eq_true rfl) (Nat.le_of_ble_eq_true rfl) ?_
  have hH : HC ε x R23 w_1 := hq.2.cv (S := R23) (by decide +kernel)
  obtain ⟨fo, hob⟩ := hH.ob
  rw [hq.1]
  dsimp only [Option.toList, List.cons_append, List.nil_append]
  rw [show nS R22 0 + 1 = 1 by decide +kernel]
  refine lv_iconst (pc := 517) (v := iv 1) hx hb dL_rhythms_517 rfl ?_
  refine r_icmp_ne (pc := 518) (a := 1) (b := 1) hx hb dL_rhythms_518 (tgt := 570) (by decide) ⟨by omega, by omega⟩ ⟨by omega, by omega⟩ (fun c_518 => ?_) (fun c_518 => ?_)
  · exact absurd c_518 (by decide)
  · have c_518_ := c_518
    refine lv_aload_n (pc := 521) hx hb dL_rhythms_521 rfl (lv_at hl 0 rfl) ?_
    refine lv_iconst (pc := 522) (v := iv 1) hx hb dL_rhythms_522 rfl ?_
    refine c_callV (pc := 523) (y := yX4_phase) (As := [.int (iv 1)]) (rest := []) hC hE hP hD hS hl.1 (K_phase l ε hst hH 1 (by decide +kernel) (by decide +kernel)) m_4_24 m_5_0 m_5_1 m_0_2 m_5_2 hob rfl hd_yX4_phase rfl ⟨⟨by decide, by decide⟩, (Nat.le_of_ble_eq_true rfl), (Nat.le_of_ble_eq_true rfl)⟩ (Nat.le_of_ble_eq_true rfl) rfl dL_rhythms_523 kxN (fun v w_2 H locs hq hP hD hS => ?_)
    refine W.widen (k := 1200) (n := 144028) (Nat.le_of_ble_eq_true rfl) (Nat.le_of_ble_eq_true rfl) ?_
    have hH : HC ε x R24 w_2 := hq.2.cv (S := R24) (by decide +kernel)
    obtain ⟨fo, hob⟩ := hH.ob
    rw [hq.1]
    dsimp only [Option.toList, List.cons_append, List.nil_append]
    rw [show nS R23 0 + 1 = 2 by decide +kernel]
    refine lv_iconst (pc := 526) (v := iv 2) hx hb dL_rhythms_526 rfl ?_
    refine r_icmp_ne (pc := 527) (a := 2) (b := 2) hx hb dL_rhythms_527 (tgt := 570) (by decide) ⟨by omega, by omega⟩ ⟨by omega, by omega⟩ (fun c_527 => ?_) (fun c_527 => ?_)
    · exact absurd c_527 (by decide)
    · have c_527_ := c_527
      refine lv_aload_n (pc := 530) hx hb dL_rhythms_530 rfl (lv_at hl 0 rfl) ?_
      refine lv_iconst (pc := 531) (v := iv 1) hx hb dL_rhythms_531 rfl ?_
      refine c_callV (pc := 532) (y := yX4_phase) (As := [.int (iv 1)]) (rest := []) hC hE hP hD hS hl.1 (K_phase l ε hst hH 1 (by decide +kernel) (by decide +kernel)) m_4_24 m_5_0 m_5_1 m_0_2 m_5_2 hob rfl hd_yX4_phase rfl ⟨⟨by decide, by decide⟩, (Nat.le_of_ble_eq_true rfl), (Nat.le_of_ble_eq_true rfl)⟩ (Nat.le_of_ble_eq_true rfl) rfl dL_rhythms_532 kxN (fun v w_3 H locs hq hP hD hS => ?_)
      refine W.widen (k := 1202) (n := 144040) (Nat.le_of_ble_eq_true rfl) (Nat.le_of_ble_eq_true rfl) ?_
      have hH : HC ε x R25 w_3 := hq.2.cv (S := R25) (by decide +kernel)
      obtain ⟨fo, hob⟩ := hH.ob
      rw [hq.1]
      dsimp only [Option.toList, List.cons_append, List.nil_append]
      rw [show nS R24 0 + 1 = 3 by decide +kernel]
      refine lv_iconst (pc := 535) (v := iv 3) hx hb dL_rhythms_535 rfl ?_
      refine r_icmp_ne (pc := 536) (a := 3) (b := 3) hx hb dL_rhythms_536 (tgt := 570) (by decide) ⟨by omega, by omega⟩ ⟨by omega, by omega⟩ (fun c_536 => ?_) (fun c_536 => ?_)
      · exact absurd c_536 (by decide)
      · have c_536_ := c_536
        refine lv_aload_n (pc := 539) hx hb dL_rhythms_539 rfl (lv_at hl 0 rfl) ?_
        refine lv_iconst (pc := 540) (v := iv 1) hx hb dL_rhythms_540 rfl ?_
        refine lv_iconst (pc := 541) (v := iv 0) hx hb dL_rhythms_541 rfl ?_
        refine lv_iconst (pc := 542) (v := iv 0) hx hb dL_rhythms_542 rfl ?_
        refine lv_iconst (pc := 543) (v := iv 0) hx hb dL_rhythms_543 rfl ?_
        refine c_callSW (pc := 544) (y := yL_act) (As := [.ref x, .int (iv 1), .int (iv 0), .int (iv 0), .int (iv 0)]) (rest := []) hC hE hP hD hS hl.1 (A_pattern_is l ε hst hH 0 0 0 (by decide) (by decide) (by decide) (by decide +kernel)) m_4_18 m_4_19 m_0_5 m_4_20 hd_yL_act rfl ⟨⟨by decide, by decide⟩, (Nat.le_of_ble_eq_true rfl), (Nat.le_of_ble_eq_true rfl)⟩ (Nat.le_of_ble_eq_true rfl) rfl dL_rhythms_544 kxN (fun v w_4 H locs hq hP hD hS => ?_)
        refine W.widen (k := 1207) (n := 147140) (Nat.le_of_ble_eq_true rfl) (Nat.le_of_ble_eq_true rfl) ?_
        rw [hq.2] at hP hD
        rw [hq.1]
        dsimp only [Option.toList, List.cons_append, List.nil_append]
        refine lv_bipush (pc := 547) (v := iv (-73)) hx hb dL_rhythms_547 (by decide) ?_
        refine r_icmp_ne (pc := 549) (a := (-73)) (b := (-73)) hx hb dL_rhythms_549 (tgt := 570) (by decide) ⟨by omega, by omega⟩ ⟨by omega, by omega⟩ (fun c_549 => ?_) (fun c_549 => ?_)
        · exact absurd c_549 (by decide)
        · have c_549_ := c_549
          refine lv_aload_n (pc := 552) hx hb dL_rhythms_552 rfl (lv_at hl 0 rfl) ?_
          refine lv_iconst (pc := 553) (v := iv 1) hx hb dL_rhythms_553 rfl ?_
          refine c_callV (pc := 554) (y := yX4_phase) (As := [.int (iv 1)]) (rest := []) hC hE hP hD hS hl.1 (K_phase l ε hst hH 1 (by decide +kernel) (by decide +kernel)) m_4_24 m_5_0 m_5_1 m_0_2 m_5_2 hob rfl hd_yX4_phase rfl ⟨⟨by decide, by decide⟩, (Nat.le_of_ble_eq_true rfl), (Nat.le_of_ble_eq_true rfl)⟩ (Nat.le_of_ble_eq_true rfl) rfl dL_rhythms_554 kxN (fun v w_5 H locs hq hP hD hS => ?_)
          refine W.widen (k := 1209) (n := 147152) (Nat.le_of_ble_eq_true rfl) (Nat.le_of_ble_eq_true rfl) ?_
          have hH : HC ε x R26 w_5 := hq.2.cv (S := R26) (by decide +kernel)
          obtain ⟨fo, hob⟩ := hH.ob
          rw [hq.1]
          dsimp only [Option.toList, List.cons_append, List.nil_append]
          rw [show nS R25 0 + 1 = 4 by decide +kernel]
          refine lv_iconst (pc := 557) (v := iv 4) hx hb dL_rhythms_557 rfl ?_
          refine r_icmp_ne (pc := 558) (a := 4) (b := 4) hx hb dL_rhythms_558 (tgt := 570) (by decide) ⟨by omega, by omega⟩ ⟨by omega, by omega⟩ (fun c_558 => ?_) (fun c_558 => ?_)
          · exact absurd c_558 (by decide)
          · have c_558_ := c_558
            refine W.widen (k := 1209) (n := 147152) (Nat.le_of_ble_eq_true rfl) (Nat.le_of_ble_eq_true rfl) ?_
            exact hnx _ _ _ _ _ _ _ _ _ hC hE hQ _ _ _ _ hH hP hD hS (lv_sub hl [0, 1] rfl)
set_option maxRecDepth 100000 in
set_option maxHeartbeats 8000000 in
theorem sR_13 (l : Launch) (ε : EV) (hst : l.stackTraces = false) {x : Nat}  (hnx : SEG l ε yL_rhythms cL_rhythms 2 rm_A_rhythms (fun v z => v = some (.int (iv 1))) 581 1232 156500 [(0, .ref x), (1, .int (iv 18))] (fun z => HC ε x R29 z)) : SEG l ε yL_rhythms cL_rhythms 2 rm_A_rhythms (fun v z => v = some (.int (iv 1))) 561 1209 147152 [(0, .ref x), (1, .int (iv 8))] (fun z => HC ε x R26 z) := by
  intro p9 e9 s9 m9 a9 bl9 me9 c9 Q9 hC hE hQ H locs ls w9 hH hP hD hS hl
  have hx := hC.1
  have hb := hC.2.1
  have hK := hE.K
  obtain ⟨fo, hob⟩ := hH.ob
  refine lv_aload_n (pc := 561) hx hb dL_rhythms_561 rfl (lv_at hl 0 rfl) ?_
  refine c_callV (pc := 562) (y := yX4_pattern) (As := []) (rest := []) hC hE hP hD hS hl.1 (K_pattern l ε hst hH  (by decide +kernel) (by decide +kernel)) m_5_10 m_5_11 m_5_12 m_0_2 m_5_13 hob rfl hd_yX4_pattern rfl ⟨⟨by decide, by decide⟩, (Nat.le_of_ble_eq_true rfl), (Nat.le_of_ble_eq_true rfl)⟩ (Nat.le_of_ble_eq_true rfl) rfl dL_rhythms_562 kxN (fun v w_1 H locs hq hP hD hS => ?_)
  refine W.widen (k := 1214) (n := 150252) (Nat.le_of_ble_eq_true rfl) (Nat.le_of_ble_eq_true rfl) ?_
  have hH : HC ε x R27 w_1 := hq.2.cv (S := R27) (by decide +kernel)
  obtain ⟨fo, hob⟩ := hH.ob
  rw [hq.1]
  dsimp only [Option.toList, List.cons_append, List.nil_append]
  rw [show nS R26 1 = 15 by decide +kernel]
  refine lv_bipush (pc := 565) (v := iv 15) hx hb dL_rhythms_565 (by decide) ?_
  refine r_icmp_eq (pc := 567) (a := 15) (b := 15) hx hb dL_rhythms_567 (tgt := 572) (by decide) ⟨by omega, by omega⟩ ⟨by omega, by omega⟩ (fun c_567 => ?_) (fun c_567 => ?_)
  · have c_567_ := c_567
    refine lv_bipush (pc := 572) (v := iv 16) hx hb dL_rhythms_572 (by decide) ?_
    refine lv_istore_n (lv' := [(1, .int (iv 16)), (0, .ref x)]) (pc := 574) hx hb dL_rhythms_574 rfl hl (by decide) rfl (fun ls hl => ?_)
    refine lv_iload_n (pc := 575) hx hb dL_rhythms_575 rfl (lv_at hl 0 rfl) ?_
    refine lv_bipush (pc := 576) (v := iv 20) hx hb dL_rhythms_576 (by decide) ?_
    refine r_icmp_ge (pc := 578) (a := 16) (b := 20) hx hb dL_rhythms_578 (tgt := 599) (by decide) ⟨by omega, by omega⟩ ⟨by omega, by omega⟩ (fun c_578 => ?_) (fun c_578 => ?_)
    · exact absurd c_578 (by decide)
    · have c_578_ := c_578
      refine lv_aload_n (pc := 581) hx hb dL_rhythms_581 rfl (lv_at hl 1 rfl) ?_
      refine lv_bipush (pc := 582) (v := iv 99) hx hb dL_rhythms_582 (by decide) ?_
      refine c_callS (pc := 584) (y := yL_pattern) (As := [.ref x, .int (iv 99)]) (rest := []) hC hE hP hD hS hl.1 (A_pat2 l ε hst hH (by decide +kernel) (by decide +kernel) 99 9 9 (by decide +kernel) (by decide +kernel) (by decide +kernel)) m_16_6 m_16_7 m_0_5 m_16_8 hd_yL_pattern rfl ⟨⟨by decide, by decide⟩, (Nat.le_of_ble_eq_true rfl), (Nat.le_of_ble_eq_true rfl)⟩ (Nat.le_of_ble_eq_true rfl) rfl dL_rhythms_584 kxN (fun v w_2 H locs hq hP hD hS => ?_)
      refine W.widen (k := 1223) (n := 153376) (Nat.le_of_ble_eq_true rfl) (Nat.le_of_ble_eq_true rfl) ?_
      have hH : HC ε x R28 w_2 := hq.2.cv (S := R28) (by decide +kernel)
      obtain ⟨fo, hob⟩ := hH.ob
      rw [hq.1]
      dsimp only [Option.toList, List.cons_append, List.nil_append]
      rw [show nS R27 1 = 16 by decide +kernel]
      refine lv_iload_n (pc := 587) hx hb dL_rhythms_587 rfl (lv_at hl 0 rfl) ?_
      refine r_icmp_eq (pc := 588) (a := 16) (b := 16) hx hb dL_rhythms_588 (tgt := 593) (by decide) ⟨by omega, by omega⟩ ⟨by omega, by omega⟩ (fun c_588 => ?_) (fun c_588 => ?_)
      · have c_588_ := c_588
        refine lv_iinc (v := iv (17)) (lv' := [(1, .int (iv 17)), (0, .ref x)]) (pc := 593) hx hb dL_rhythms_593 hl (k := 0) rfl (iv_add _ _) (by decide) rfl (fun ls hl => ?_)
        refine lv_goto (pc := 596) (tgt := 575) hx hb dL_rhythms_596 (by decide) ?_
        refine lv_iload_n (pc := 575) hx hb dL_rhythms_575 rfl (lv_at hl 0 rfl) ?_
        refine lv_bipush (pc := 576) (v := iv 20) hx hb dL_rhythms_576 (by decide) ?_
        refine r_icmp_ge (pc := 578) (a := 17) (b := 20) hx hb dL_rhythms_578 (tgt := 599) (by decide) ⟨by omega, by omega⟩ ⟨by omega, by omega⟩ (fun c_578 => ?_) (fun c_578 => ?_)
        · exact absurd c_578 (by decide)
        · have c_578_ := c_578
          refine lv_aload_n (pc := 581) hx hb dL_rhythms_581 rfl (lv_at hl 1 rfl) ?_
          refine lv_bipush (pc := 582) (v := iv 99) hx hb dL_rhythms_582 (by decide) ?_
          refine c_callS (pc := 584) (y := yL_pattern) (As := [.ref x, .int (iv 99)]) (rest := []) hC hE hP hD hS hl.1 (A_pat2 l ε hst hH (by decide +kernel) (by decide +kernel) 99 9 9 (by decide +kernel) (by decide +kernel) (by decide +kernel)) m_16_6 m_16_7 m_0_5 m_16_8 hd_yL_pattern rfl ⟨⟨by decide, by decide⟩, (Nat.le_of_ble_eq_true rfl), (Nat.le_of_ble_eq_true rfl)⟩ (Nat.le_of_ble_eq_true rfl) rfl dL_rhythms_584 kxN (fun v w_3 H locs hq hP hD hS => ?_)
          refine W.widen (k := 1232) (n := 156500) (Nat.le_of_ble_eq_true rfl) (Nat.le_of_ble_eq_true rfl) ?_
          have hH : HC ε x R29 w_3 := hq.2.cv (S := R29) (by decide +kernel)
          obtain ⟨fo, hob⟩ := hH.ob
          rw [hq.1]
          dsimp only [Option.toList, List.cons_append, List.nil_append]
          rw [show nS R28 1 = 17 by decide +kernel]
          refine lv_iload_n (pc := 587) hx hb dL_rhythms_587 rfl (lv_at hl 0 rfl) ?_
          refine r_icmp_eq (pc := 588) (a := 17) (b := 17) hx hb dL_rhythms_588 (tgt := 593) (by decide) ⟨by omega, by omega⟩ ⟨by omega, by omega⟩ (fun c_588 => ?_) (fun c_588 => ?_)
          · have c_588_ := c_588
            refine lv_iinc (v := iv (18)) (lv' := [(1, .int (iv 18)), (0, .ref x)]) (pc := 593) hx hb dL_rhythms_593 hl (k := 0) rfl (iv_add _ _) (by decide) rfl (fun ls hl => ?_)
            refine lv_goto (pc := 596) (tgt := 575) hx hb dL_rhythms_596 (by decide) ?_
            refine lv_iload_n (pc := 575) hx hb dL_rhythms_575 rfl (lv_at hl 0 rfl) ?_
            refine lv_bipush (pc := 576) (v := iv 20) hx hb dL_rhythms_576 (by decide) ?_
            refine r_icmp_ge (pc := 578) (a := 18) (b := 20) hx hb dL_rhythms_578 (tgt := 599) (by decide) ⟨by omega, by omega⟩ ⟨by omega, by omega⟩ (fun c_578 => ?_) (fun c_578 => ?_)
            · exact absurd c_578 (by decide)
            · have c_578_ := c_578
              refine W.widen (k := 1232) (n := 156500) (Nat.le_of_ble_eq_true rfl) (Nat.le_of_ble_eq_true rfl) ?_
              exact hnx _ _ _ _ _ _ _ _ _ hC hE hQ _ _ _ _ hH hP hD hS (lv_sub hl [1, 0] rfl)
          · exact absurd c_588 (by decide)
      · exact absurd c_588 (by decide)
  · exact absurd c_567 (by decide)
set_option maxRecDepth 100000 in
set_option maxHeartbeats 8000000 in
theorem sR_14 (l : Launch) (ε : EV) (hst : l.stackTraces = false) {x : Nat}  (hnx : SEG l ε yL_rhythms cL_rhythms 2 rm_A_rhythms (fun v z => v = some (.int (iv 1))) 617 1254 162772 [(0, .ref x), (1, .int (iv 20))] (fun z => HC ε x R33 z)) : SEG l ε yL_rhythms cL_rhythms 2 rm_A_rhythms (fun v z => v = some (.int (iv 1))) 581 1232 156500 [(0, .ref x), (1, .int (iv 18))] (fun z => HC ε x R29 z) := by
  intro p9 e9 s9 m9 a9 bl9 me9 c9 Q9 hC hE hQ H locs ls w9 hH hP hD hS hl
  have hx := hC.1
  have hb := hC.2.1
  have hK := hE.K
  obtain ⟨fo, hob⟩ := hH.ob
  refine lv_aload_n (pc := 581) hx hb dL_rhythms_581 rfl (lv_at hl 0 rfl) ?_
  refine lv_bipush (pc := 582) (v := iv 99) hx hb dL_rhythms_582 (by decide) ?_
  refine c_callS (pc := 584) (y := yL_pattern) (As := [.ref x, .int (iv 99)]) (rest := []) hC hE hP hD hS hl.1 (A_pat2 l ε hst hH (by decide +kernel) (by decide +kernel) 99 9 9 (by decide +kernel) (by decide +kernel) (by decide +kernel)) m_16_6 m_16_7 m_0_5 m_16_8 hd_yL_pattern rfl ⟨⟨by decide, by decide⟩, (Nat.le_of_ble_eq_true rfl), (Nat.le_of_ble_eq_true rfl)⟩ (Nat.le_of_ble_eq_true rfl) rfl dL_rhythms_584 kxN (fun v w_1 H locs hq hP hD hS => ?_)
  refine W.widen (k := 1241) (n := 159624) (Nat.le_of_ble_eq_true rfl) (Nat.le_of_ble_eq_true rfl) ?_
  have hH : HC ε x R30 w_1 := hq.2.cv (S := R30) (by decide +kernel)
  obtain ⟨fo, hob⟩ := hH.ob
  rw [hq.1]
  dsimp only [Option.toList, List.cons_append, List.nil_append]
  rw [show nS R29 1 = 18 by decide +kernel]
  refine lv_iload_n (pc := 587) hx hb dL_rhythms_587 rfl (lv_at hl 1 rfl) ?_
  refine r_icmp_eq (pc := 588) (a := 18) (b := 18) hx hb dL_rhythms_588 (tgt := 593) (by decide) ⟨by omega, by omega⟩ ⟨by omega, by omega⟩ (fun c_588 => ?_) (fun c_588 => ?_)
  · have c_588_ := c_588
    refine lv_iinc (v := iv (19)) (lv' := [(1, .int (iv 19)), (0, .ref x)]) (pc := 593) hx hb dL_rhythms_593 hl (k := 1) rfl (iv_add _ _) (by decide) rfl (fun ls hl => ?_)
    refine lv_goto (pc := 596) (tgt := 575) hx hb dL_rhythms_596 (by decide) ?_
    refine lv_iload_n (pc := 575) hx hb dL_rhythms_575 rfl (lv_at hl 0 rfl) ?_
    refine lv_bipush (pc := 576) (v := iv 20) hx hb dL_rhythms_576 (by decide) ?_
    refine r_icmp_ge (pc := 578) (a := 19) (b := 20) hx hb dL_rhythms_578 (tgt := 599) (by decide) ⟨by omega, by omega⟩ ⟨by omega, by omega⟩ (fun c_578 => ?_) (fun c_578 => ?_)
    · exact absurd c_578 (by decide)
    · have c_578_ := c_578
      refine lv_aload_n (pc := 581) hx hb dL_rhythms_581 rfl (lv_at hl 1 rfl) ?_
      refine lv_bipush (pc := 582) (v := iv 99) hx hb dL_rhythms_582 (by decide) ?_
      refine c_callS (pc := 584) (y := yL_pattern) (As := [.ref x, .int (iv 99)]) (rest := []) hC hE hP hD hS hl.1 (A_pat2 l ε hst hH (by decide +kernel) (by decide +kernel) 99 9 9 (by decide +kernel) (by decide +kernel) (by decide +kernel)) m_16_6 m_16_7 m_0_5 m_16_8 hd_yL_pattern rfl ⟨⟨by decide, by decide⟩, (Nat.le_of_ble_eq_true rfl), (Nat.le_of_ble_eq_true rfl)⟩ (Nat.le_of_ble_eq_true rfl) rfl dL_rhythms_584 kxN (fun v w_2 H locs hq hP hD hS => ?_)
      refine W.widen (k := 1250) (n := 162748) (Nat.le_of_ble_eq_true rfl) (Nat.le_of_ble_eq_true rfl) ?_
      have hH : HC ε x R31 w_2 := hq.2.cv (S := R31) (by decide +kernel)
      obtain ⟨fo, hob⟩ := hH.ob
      rw [hq.1]
      dsimp only [Option.toList, List.cons_append, List.nil_append]
      rw [show nS R30 1 = 19 by decide +kernel]
      refine lv_iload_n (pc := 587) hx hb dL_rhythms_587 rfl (lv_at hl 0 rfl) ?_
      refine r_icmp_eq (pc := 588) (a := 19) (b := 19) hx hb dL_rhythms_588 (tgt := 593) (by decide) ⟨by omega, by omega⟩ ⟨by omega, by omega⟩ (fun c_588 => ?_) (fun c_588 => ?_)
      · have c_588_ := c_588
        refine lv_iinc (v := iv (20)) (lv' := [(1, .int (iv 20)), (0, .ref x)]) (pc := 593) hx hb dL_rhythms_593 hl (k := 0) rfl (iv_add _ _) (by decide) rfl (fun ls hl => ?_)
        refine lv_goto (pc := 596) (tgt := 575) hx hb dL_rhythms_596 (by decide) ?_
        refine lv_iload_n (pc := 575) hx hb dL_rhythms_575 rfl (lv_at hl 0 rfl) ?_
        refine lv_bipush (pc := 576) (v := iv 20) hx hb dL_rhythms_576 (by decide) ?_
        refine r_icmp_ge (pc := 578) (a := 20) (b := 20) hx hb dL_rhythms_578 (tgt := 599) (by decide) ⟨by omega, by omega⟩ ⟨by omega, by omega⟩ (fun c_578 => ?_) (fun c_578 => ?_)
        · have c_578_ := c_578
          refine lv_aload_n (pc := 599) hx hb dL_rhythms_599 rfl (lv_at hl 1 rfl) ?_
          refine lv_iconst (pc := 600) (v := iv 4) hx hb dL_rhythms_600 rfl ?_
          refine c_callV (pc := 601) (y := yX4_phase) (As := [.int (iv 4)]) (rest := []) hC hE hP hD hS hl.1 (K_phase l ε hst hH 4 (by decide +kernel) (by decide +kernel)) m_4_24 m_5_0 m_5_1 m_0_2 m_5_2 hob rfl hd_yX4_phase rfl ⟨⟨by decide, by decide⟩, (Nat.le_of_ble_eq_true rfl), (Nat.le_of_ble_eq_true rfl)⟩ (Nat.le_of_ble_eq_true rfl) rfl dL_rhythms_601 kxN (fun v w_3 H locs hq hP hD hS => ?_)
          refine W.widen (k := 1252) (n := 162760) (Nat.le_of_ble_eq_true rfl) (Nat.le_of_ble_eq_true rfl) ?_
          have hH : HC ε x R32 w_3 := hq.2.cv (S := R32) (by decide +kernel)
          obtain ⟨fo, hob⟩ := hH.ob
          rw [hq.1]
          dsimp only [Option.toList, List.cons_append, List.nil_append]
          rw [show nS R31 0 + 1 = 1 by decide +kernel]
          refine lv_iconst (pc := 604) (v := iv 1) hx hb dL_rhythms_604 rfl ?_
          refine r_icmp_ne (pc := 605) (a := 1) (b := 1) hx hb dL_rhythms_605 (tgt := 665) (by decide) ⟨by omega, by omega⟩ ⟨by omega, by omega⟩ (fun c_605 => ?_) (fun c_605 => ?_)
          · exact absurd c_605 (by decide)
          · have c_605_ := c_605
            refine lv_aload_n (pc := 608) hx hb dL_rhythms_608 rfl (lv_at hl 1 rfl) ?_
            refine lv_iconst (pc := 609) (v := iv 4) hx hb dL_rhythms_609 rfl ?_
            refine c_callV (pc := 610) (y := yX4_phase) (As := [.int (iv 4)]) (rest := []) hC hE hP hD hS hl.1 (K_phase l ε hst hH 4 (by decide +kernel) (by decide +kernel)) m_4_24 m_5_0 m_5_1 m_0_2 m_5_2 hob rfl hd_yX4_phase rfl ⟨⟨by decide, by decide⟩, (Nat.le_of_ble_eq_true rfl), (Nat.le_of_ble_eq_true rfl)⟩ (Nat.le_of_ble_eq_true rfl) rfl dL_rhythms_610 kxN (fun v w_4 H locs hq hP hD hS => ?_)
            refine W.widen (k := 1254) (n := 162772) (Nat.le_of_ble_eq_true rfl) (Nat.le_of_ble_eq_true rfl) ?_
            have hH : HC ε x R33 w_4 := hq.2.cv (S := R33) (by decide +kernel)
            obtain ⟨fo, hob⟩ := hH.ob
            rw [hq.1]
            dsimp only [Option.toList, List.cons_append, List.nil_append]
            rw [show nS R32 0 + 1 = 2 by decide +kernel]
            refine lv_iconst (pc := 613) (v := iv 2) hx hb dL_rhythms_613 rfl ?_
            refine r_icmp_ne (pc := 614) (a := 2) (b := 2) hx hb dL_rhythms_614 (tgt := 665) (by decide) ⟨by omega, by omega⟩ ⟨by omega, by omega⟩ (fun c_614 => ?_) (fun c_614 => ?_)
            · exact absurd c_614 (by decide)
            · have c_614_ := c_614
              refine W.widen (k := 1254) (n := 162772) (Nat.le_of_ble_eq_true rfl) (Nat.le_of_ble_eq_true rfl) ?_
              exact hnx _ _ _ _ _ _ _ _ _ hC hE hQ _ _ _ _ hH hP hD hS (lv_sub hl [1, 0] rfl)
        · exact absurd c_578 (by decide)
      · exact absurd c_588 (by decide)
  · exact absurd c_588 (by decide)
set_option maxRecDepth 100000 in
set_option maxHeartbeats 8000000 in
theorem sR_15 (l : Launch) (ε : EV) (hst : l.stackTraces = false) {x : Nat}  : SEG l ε yL_rhythms cL_rhythms 2 rm_A_rhythms (fun v z => v = some (.int (iv 1))) 617 1254 162772 [(0, .ref x), (1, .int (iv 20))] (fun z => HC ε x R33 z) := by
  intro p9 e9 s9 m9 a9 bl9 me9 c9 Q9 hC hE hQ H locs ls w9 hH hP hD hS hl
  have hx := hC.1
  have hb := hC.2.1
  have hK := hE.K
  obtain ⟨fo, hob⟩ := hH.ob
  refine lv_aload_n (pc := 617) hx hb dL_rhythms_617 rfl (lv_at hl 0 rfl) ?_
  refine lv_iconst (pc := 618) (v := iv 1) hx hb dL_rhythms_618 rfl ?_
  refine lv_iconst (pc := 619) (v := iv 0) hx hb dL_rhythms_619 rfl ?_
  refine lv_iconst (pc := 620) (v := iv 0) hx hb dL_rhythms_620 rfl ?_
  refine lv_iconst (pc := 621) (v := iv 0) hx hb dL_rhythms_621 rfl ?_
  refine c_callSW (pc := 622) (y := yL_act) (As := [.ref x, .int (iv 1), .int (iv 0), .int (iv 0), .int (iv 0)]) (rest := []) hC hE hP hD hS hl.1 (A_pattern_is l ε hst hH 0 0 0 (by decide) (by decide) (by decide) (by decide +kernel)) m_4_18 m_4_19 m_0_5 m_4_20 hd_yL_act rfl ⟨⟨by decide, by decide⟩, (Nat.le_of_ble_eq_true rfl), (Nat.le_of_ble_eq_true rfl)⟩ (Nat.le_of_ble_eq_true rfl) rfl dL_rhythms_622 kxN (fun v w_1 H locs hq hP hD hS => ?_)
  refine W.widen (k := 1259) (n := 165872) (Nat.le_of_ble_eq_true rfl) (Nat.le_of_ble_eq_true rfl) ?_
  rw [hq.2] at hP hD
  rw [hq.1]
  dsimp only [Option.toList, List.cons_append, List.nil_append]
  refine lv_bipush (pc := 625) (v := iv (-73)) hx hb dL_rhythms_625 (by decide) ?_
  refine r_icmp_ne (pc := 627) (a := (-73)) (b := (-73)) hx hb dL_rhythms_627 (tgt := 665) (by decide) ⟨by omega, by omega⟩ ⟨by omega, by omega⟩ (fun c_627 => ?_) (fun c_627 => ?_)
  · exact absurd c_627 (by decide)
  · have c_627_ := c_627
    refine lv_aload_n (pc := 630) hx hb dL_rhythms_630 rfl (lv_at hl 0 rfl) ?_
    refine lv_iconst (pc := 631) (v := iv 4) hx hb dL_rhythms_631 rfl ?_
    refine c_callV (pc := 632) (y := yX4_phase) (As := [.int (iv 4)]) (rest := []) hC hE hP hD hS hl.1 (K_phase l ε hst hH 4 (by decide +kernel) (by decide +kernel)) m_4_24 m_5_0 m_5_1 m_0_2 m_5_2 hob rfl hd_yX4_phase rfl ⟨⟨by decide, by decide⟩, (Nat.le_of_ble_eq_true rfl), (Nat.le_of_ble_eq_true rfl)⟩ (Nat.le_of_ble_eq_true rfl) rfl dL_rhythms_632 kxN (fun v w_2 H locs hq hP hD hS => ?_)
    refine W.widen (k := 1261) (n := 165884) (Nat.le_of_ble_eq_true rfl) (Nat.le_of_ble_eq_true rfl) ?_
    have hH : HC ε x R34 w_2 := hq.2.cv (S := R34) (by decide +kernel)
    obtain ⟨fo, hob⟩ := hH.ob
    rw [hq.1]
    dsimp only [Option.toList, List.cons_append, List.nil_append]
    rw [show nS R33 0 + 1 = 3 by decide +kernel]
    refine lv_iconst (pc := 635) (v := iv 3) hx hb dL_rhythms_635 rfl ?_
    refine r_icmp_ne (pc := 636) (a := 3) (b := 3) hx hb dL_rhythms_636 (tgt := 665) (by decide) ⟨by omega, by omega⟩ ⟨by omega, by omega⟩ (fun c_636 => ?_) (fun c_636 => ?_)
    · exact absurd c_636 (by decide)
    · have c_636_ := c_636
      refine lv_aload_n (pc := 639) hx hb dL_rhythms_639 rfl (lv_at hl 0 rfl) ?_
      refine lv_bipush (pc := 640) (v := iv 19) hx hb dL_rhythms_640 (by decide) ?_
      refine c_callV (pc := 642) (y := yX4_period) (As := [.int (iv 19)]) (rest := []) hC hE hP hD hS hl.1 (K_period l ε hst hH 19 (by decide +kernel)) m_8_15 m_8_16 m_8_17 m_0_2 m_8_18 hob rfl hd_yX4_period rfl ⟨⟨by decide, by decide⟩, (Nat.le_of_ble_eq_true rfl), (Nat.le_of_ble_eq_true rfl)⟩ (Nat.le_of_ble_eq_true rfl) rfl dL_rhythms_642 kxN (fun v w_3 H locs hq hP hD hS => ?_)
      refine W.widen (k := 1262) (n := 165890) (Nat.le_of_ble_eq_true rfl) (Nat.le_of_ble_eq_true rfl) ?_
      rw [hq.2] at hP hD
      rw [hq.1]
      dsimp only [Option.toList, List.cons_append, List.nil_append]
      rw [show gS R34 3 (19 : Int).toNat = 18 by decide +kernel]
      refine lv_bipush (pc := 645) (v := iv 18) hx hb dL_rhythms_645 (by decide) ?_
      refine r_icmp_ne (pc := 647) (a := 18) (b := 18) hx hb dL_rhythms_647 (tgt := 665) (by decide) ⟨by omega, by omega⟩ ⟨by omega, by omega⟩ (fun c_647 => ?_) (fun c_647 => ?_)
      · exact absurd c_647 (by decide)
      · have c_647_ := c_647
        refine lv_aload_n (pc := 650) hx hb dL_rhythms_650 rfl (lv_at hl 0 rfl) ?_
        refine lv_bipush (pc := 651) (v := iv 20) hx hb dL_rhythms_651 (by decide) ?_
        refine lv_iconst (pc := 653) (v := iv 0) hx hb dL_rhythms_653 rfl ?_
        refine lv_iconst (pc := 654) (v := iv 0) hx hb dL_rhythms_654 rfl ?_
        refine c_callS (pc := 655) (y := yL_refuses) (As := [.ref x, .int (iv 20), .int (iv 0), .int (iv 0)]) (rest := []) hC hE hP hD hS hl.1 (A_refuses l ε hst hH 20 0 0 (by decide +kernel) (by decide +kernel) (by decide +kernel) (by decide +kernel)) m_1_19 m_1_20 m_0_5 m_1_21 hd_yL_refuses rfl ⟨⟨by decide, by decide⟩, (Nat.le_of_ble_eq_true rfl), (Nat.le_of_ble_eq_true rfl)⟩ (Nat.le_of_ble_eq_true rfl) rfl dL_rhythms_655 kxN (fun v w_4 H locs hq hP hD hS => ?_)
        refine W.widen (k := 2106) (n := 252522) (Nat.le_of_ble_eq_true rfl) (Nat.le_of_ble_eq_true rfl) ?_
        rw [hq.2] at hP hD
        rw [hq.1]
        dsimp only [Option.toList, List.cons_append, List.nil_append]
        refine r_if_eq (pc := 658) (a := 1) hx hb dL_rhythms_658 (tgt := 665) (by decide) ⟨by omega, by omega⟩ (fun c_658 => ?_) (fun c_658 => ?_)
        · exact absurd c_658 (by decide)
        · have c_658_ := c_658
          refine lv_iconst (pc := 661) (v := iv 1) hx hb dL_rhythms_661 rfl ?_
          refine lv_goto (pc := 662) (tgt := 666) hx hb dL_rhythms_662 (by decide) ?_
          refine c_zret (pc := 666) hC hQ hP hD hS (by decide) (by decide) dL_rhythms_666 nz_1 ?_
          exact rfl
theorem A_rhythms (l : Launch) (ε : EV) (hst : l.stackTraces = false) (w : va_W) : CT l yL_rhythms cL_rhythms 2 (some .boolean) rm_A_rhythms ε [] w (fun v z => v = some (.int (iv 1))) NX := SEG.ct (P := fun _ => True) (by decide +kernel) (Nat.le_of_ble_eq_true rfl) trivial (sR_0 l ε hst (fun x => sR_1 l ε hst (sR_2 l ε hst (sR_3 l ε hst (sR_4 l ε hst (sR_5 l ε hst (sR_6 l ε hst (sR_7 l ε hst (sR_8 l ε hst (sR_9 l ε hst (sR_10 l ε hst (sR_11 l ε hst (sR_12 l ε hst (sR_13 l ε hst (sR_14 l ε hst (sR_15 l ε hst))))))))))))))))
