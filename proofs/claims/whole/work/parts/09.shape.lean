def zn : Nat → Option Nat := fun _ => none
/-- a NestedClips$Show at b: the object, then its arrays -/
def zSw (sh : Nat → zSh) (b : Nat) : Prop := b + 10 ≤ 189 ∧ sh b = .inl (5, [.inr .int, .inl (some (b + 1)), .inl (some (b + 2)), .inl (some (b + 3)), .inl (some (b + 4)), .inl (some (b + 5)), .inl (some (b + 6)), .inl (some (b + 7)), .inr .int, .inl (some (b + 8)), .inl (some (b + 9))]) ∧ sh (b + 1) = .inr (0, 12, zn) ∧ sh (b + 2) = .inr (0, 12, zn) ∧ sh (b + 3) = .inr (0, 12, zn) ∧ sh (b + 4) = .inr (0, 12, zn) ∧ sh (b + 5) = .inr (0, 12, zn) ∧ sh (b + 6) = .inr (0, 12, zn) ∧ sh (b + 7) = .inr (0, 108, zn) ∧ sh (b + 8) = .inr (0, 6, zn) ∧ sh (b + 9) = .inr (0, 6, zn)
theorem zSw.a0 {sh : Nat → zSh} {b : Nat} (h : zSw sh b) : sh b = .inl (5, [.inr .int, .inl (some (b + 1)), .inl (some (b + 2)), .inl (some (b + 3)), .inl (some (b + 4)), .inl (some (b + 5)), .inl (some (b + 6)), .inl (some (b + 7)), .inr .int, .inl (some (b + 8)), .inl (some (b + 9))]) := h.2.1
theorem zSw.a1 {sh : Nat → zSh} {b : Nat} (h : zSw sh b) : sh (b + 1) = .inr (0, 12, zn) := h.2.2.1
theorem zSw.a2 {sh : Nat → zSh} {b : Nat} (h : zSw sh b) : sh (b + 2) = .inr (0, 12, zn) := h.2.2.2.1
theorem zSw.a3 {sh : Nat → zSh} {b : Nat} (h : zSw sh b) : sh (b + 3) = .inr (0, 12, zn) := h.2.2.2.2.1
theorem zSw.a4 {sh : Nat → zSh} {b : Nat} (h : zSw sh b) : sh (b + 4) = .inr (0, 12, zn) := h.2.2.2.2.2.1
theorem zSw.a5 {sh : Nat → zSh} {b : Nat} (h : zSw sh b) : sh (b + 5) = .inr (0, 12, zn) := h.2.2.2.2.2.2.1
theorem zSw.a6 {sh : Nat → zSh} {b : Nat} (h : zSw sh b) : sh (b + 6) = .inr (0, 12, zn) := h.2.2.2.2.2.2.2.1
theorem zSw.a7 {sh : Nat → zSh} {b : Nat} (h : zSw sh b) : sh (b + 7) = .inr (0, 108, zn) := h.2.2.2.2.2.2.2.2.1
theorem zSw.a8 {sh : Nat → zSh} {b : Nat} (h : zSw sh b) : sh (b + 8) = .inr (0, 6, zn) := h.2.2.2.2.2.2.2.2.2.1
theorem zSw.a9 {sh : Nat → zSh} {b : Nat} (h : zSw sh b) : sh (b + 9) = .inr (0, 6, zn) := h.2.2.2.2.2.2.2.2.2.2
/-- a NestedClips$Moment at b: the object, then its arrays -/
def zMo (sh : Nat → zSh) (b : Nat) : Prop := b + 8 ≤ 189 ∧ sh b = .inl (1, [.inr .int, .inr .int, .inl (some (b + 1)), .inl (some (b + 2)), .inl (some (b + 3)), .inl (some (b + 4)), .inl (some (b + 5)), .inl (some (b + 6)), .inl (some (b + 7))]) ∧ sh (b + 1) = .inr (0, 12, zn) ∧ sh (b + 2) = .inr (0, 12, zn) ∧ sh (b + 3) = .inr (0, 12, zn) ∧ sh (b + 4) = .inr (0, 12, zn) ∧ sh (b + 5) = .inr (0, 12, zn) ∧ sh (b + 6) = .inr (0, 12, zn) ∧ sh (b + 7) = .inr (0, 12, zn)
theorem zMo.a0 {sh : Nat → zSh} {b : Nat} (h : zMo sh b) : sh b = .inl (1, [.inr .int, .inr .int, .inl (some (b + 1)), .inl (some (b + 2)), .inl (some (b + 3)), .inl (some (b + 4)), .inl (some (b + 5)), .inl (some (b + 6)), .inl (some (b + 7))]) := h.2.1
theorem zMo.a1 {sh : Nat → zSh} {b : Nat} (h : zMo sh b) : sh (b + 1) = .inr (0, 12, zn) := h.2.2.1
theorem zMo.a2 {sh : Nat → zSh} {b : Nat} (h : zMo sh b) : sh (b + 2) = .inr (0, 12, zn) := h.2.2.2.1
theorem zMo.a3 {sh : Nat → zSh} {b : Nat} (h : zMo sh b) : sh (b + 3) = .inr (0, 12, zn) := h.2.2.2.2.1
theorem zMo.a4 {sh : Nat → zSh} {b : Nat} (h : zMo sh b) : sh (b + 4) = .inr (0, 12, zn) := h.2.2.2.2.2.1
theorem zMo.a5 {sh : Nat → zSh} {b : Nat} (h : zMo sh b) : sh (b + 5) = .inr (0, 12, zn) := h.2.2.2.2.2.2.1
theorem zMo.a6 {sh : Nat → zSh} {b : Nat} (h : zMo sh b) : sh (b + 6) = .inr (0, 12, zn) := h.2.2.2.2.2.2.2.1
theorem zMo.a7 {sh : Nat → zSh} {b : Nat} (h : zMo sh b) : sh (b + 7) = .inr (0, 12, zn) := h.2.2.2.2.2.2.2.2
/-- a NestedClips$Layout at b: the object, then its arrays -/
def zLa (sh : Nat → zSh) (b : Nat) : Prop := b + 6 ≤ 189 ∧ sh b = .inl (0, [.inl (some (b + 1)), .inl (some (b + 2)), .inl (some (b + 3)), .inl (some (b + 4)), .inl (some (b + 5)), .inr .int]) ∧ sh (b + 1) = .inr (0, 12, zn) ∧ sh (b + 2) = .inr (0, 12, zn) ∧ sh (b + 3) = .inr (0, 12, zn) ∧ sh (b + 4) = .inr (0, 12, zn) ∧ sh (b + 5) = .inr (3, 12, zn)
theorem zLa.a0 {sh : Nat → zSh} {b : Nat} (h : zLa sh b) : sh b = .inl (0, [.inl (some (b + 1)), .inl (some (b + 2)), .inl (some (b + 3)), .inl (some (b + 4)), .inl (some (b + 5)), .inr .int]) := h.2.1
theorem zLa.a1 {sh : Nat → zSh} {b : Nat} (h : zLa sh b) : sh (b + 1) = .inr (0, 12, zn) := h.2.2.1
theorem zLa.a2 {sh : Nat → zSh} {b : Nat} (h : zLa sh b) : sh (b + 2) = .inr (0, 12, zn) := h.2.2.2.1
theorem zLa.a3 {sh : Nat → zSh} {b : Nat} (h : zLa sh b) : sh (b + 3) = .inr (0, 12, zn) := h.2.2.2.2.1
theorem zLa.a4 {sh : Nat → zSh} {b : Nat} (h : zLa sh b) : sh (b + 4) = .inr (0, 12, zn) := h.2.2.2.2.2.1
theorem zLa.a5 {sh : Nat → zSh} {b : Nat} (h : zLa sh b) : sh (b + 5) = .inr (3, 12, zn) := h.2.2.2.2.2.2
def zmo : Nat → Option Nat := fun i => some (45 + 8 * i)
def zkp : Nat → Option Nat := fun i => some (97 + 10 * i)
def SHL : List zSh := [
  .inl (9, [.inl (some 1), .inl (some 11), .inl (some 21), .inl (some 27), .inl (some 33), .inl (some 93), .inl (some 95), .inl (some 177), .inl (some 179), .inl (some 182), .inr .int, .inr .int, .inr .int]),
  .inl (5, [.inr .int, .inl (some 2), .inl (some 3), .inl (some 4), .inl (some 5), .inl (some 6), .inl (some 7), .inl (some 8), .inr .int, .inl (some 9), .inl (some 10)]),
  .inr (0, 12, zn),
  .inr (0, 12, zn),
  .inr (0, 12, zn),
  .inr (0, 12, zn),
  .inr (0, 12, zn),
  .inr (0, 12, zn),
  .inr (0, 108, zn),
  .inr (0, 6, zn),
  .inr (0, 6, zn),
  .inl (5, [.inr .int, .inl (some 12), .inl (some 13), .inl (some 14), .inl (some 15), .inl (some 16), .inl (some 17), .inl (some 18), .inr .int, .inl (some 19), .inl (some 20)]),
  .inr (0, 12, zn),
  .inr (0, 12, zn),
  .inr (0, 12, zn),
  .inr (0, 12, zn),
  .inr (0, 12, zn),
  .inr (0, 12, zn),
  .inr (0, 108, zn),
  .inr (0, 6, zn),
  .inr (0, 6, zn),
  .inl (0, [.inl (some 22), .inl (some 23), .inl (some 24), .inl (some 25), .inl (some 26), .inr .int]),
  .inr (0, 12, zn),
  .inr (0, 12, zn),
  .inr (0, 12, zn),
  .inr (0, 12, zn),
  .inr (3, 12, zn),
  .inl (0, [.inl (some 28), .inl (some 29), .inl (some 30), .inl (some 31), .inl (some 32), .inr .int]),
  .inr (0, 12, zn),
  .inr (0, 12, zn),
  .inr (0, 12, zn),
  .inr (0, 12, zn),
  .inr (3, 12, zn),
  .inl (6, [.inl (some 1), .inl (some 21), .inl (some 34), .inl (some 42), .inl (some 43), .inl (some 44), .inr .int, .inr .int]),
  .inl (1, [.inr .int, .inr .int, .inl (some 35), .inl (some 36), .inl (some 37), .inl (some 38), .inl (some 39), .inl (some 40), .inl (some 41)]),
  .inr (0, 12, zn),
  .inr (0, 12, zn),
  .inr (0, 12, zn),
  .inr (0, 12, zn),
  .inr (0, 12, zn),
  .inr (0, 12, zn),
  .inr (0, 12, zn),
  .inr (5, 6, zmo),
  .inr (0, 6, zn),
  .inr (0, 12, zn),
  .inl (1, [.inr .int, .inr .int, .inl (some 46), .inl (some 47), .inl (some 48), .inl (some 49), .inl (some 50), .inl (some 51), .inl (some 52)]),
  .inr (0, 12, zn),
  .inr (0, 12, zn),
  .inr (0, 12, zn),
  .inr (0, 12, zn),
  .inr (0, 12, zn),
  .inr (0, 12, zn),
  .inr (0, 12, zn),
  .inl (1, [.inr .int, .inr .int, .inl (some 54), .inl (some 55), .inl (some 56), .inl (some 57), .inl (some 58), .inl (some 59), .inl (some 60)]),
  .inr (0, 12, zn),
  .inr (0, 12, zn),
  .inr (0, 12, zn),
  .inr (0, 12, zn),
  .inr (0, 12, zn),
  .inr (0, 12, zn),
  .inr (0, 12, zn),
  .inl (1, [.inr .int, .inr .int, .inl (some 62), .inl (some 63), .inl (some 64), .inl (some 65), .inl (some 66), .inl (some 67), .inl (some 68)]),
  .inr (0, 12, zn),
  .inr (0, 12, zn),
  .inr (0, 12, zn),
  .inr (0, 12, zn),
  .inr (0, 12, zn),
  .inr (0, 12, zn),
  .inr (0, 12, zn),
  .inl (1, [.inr .int, .inr .int, .inl (some 70), .inl (some 71), .inl (some 72), .inl (some 73), .inl (some 74), .inl (some 75), .inl (some 76)]),
  .inr (0, 12, zn),
  .inr (0, 12, zn),
  .inr (0, 12, zn),
  .inr (0, 12, zn),
  .inr (0, 12, zn),
  .inr (0, 12, zn),
  .inr (0, 12, zn),
  .inl (1, [.inr .int, .inr .int, .inl (some 78), .inl (some 79), .inl (some 80), .inl (some 81), .inl (some 82), .inl (some 83), .inl (some 84)]),
  .inr (0, 12, zn),
  .inr (0, 12, zn),
  .inr (0, 12, zn),
  .inr (0, 12, zn),
  .inr (0, 12, zn),
  .inr (0, 12, zn),
  .inr (0, 12, zn),
  .inl (1, [.inr .int, .inr .int, .inl (some 86), .inl (some 87), .inl (some 88), .inl (some 89), .inl (some 90), .inl (some 91), .inl (some 92)]),
  .inr (0, 12, zn),
  .inr (0, 12, zn),
  .inr (0, 12, zn),
  .inr (0, 12, zn),
  .inr (0, 12, zn),
  .inr (0, 12, zn),
  .inr (0, 12, zn),
  .inl (7, [.inl (some 33), .inl (some 94), .inr .int, .inr .int, .inr .int, .inr .int]),
  .inr (0, 2000, zn),
  .inl (2, [.inl (some 96), .inr .int, .inr .int]),
  .inr (4, 8, zkp),
  .inl (5, [.inr .int, .inl (some 98), .inl (some 99), .inl (some 100), .inl (some 101), .inl (some 102), .inl (some 103), .inl (some 104), .inr .int, .inl (some 105), .inl (some 106)]),
  .inr (0, 12, zn),
  .inr (0, 12, zn),
  .inr (0, 12, zn),
  .inr (0, 12, zn),
  .inr (0, 12, zn),
  .inr (0, 12, zn),
  .inr (0, 108, zn),
  .inr (0, 6, zn),
  .inr (0, 6, zn),
  .inl (5, [.inr .int, .inl (some 108), .inl (some 109), .inl (some 110), .inl (some 111), .inl (some 112), .inl (some 113), .inl (some 114), .inr .int, .inl (some 115), .inl (some 116)]),
  .inr (0, 12, zn),
  .inr (0, 12, zn),
  .inr (0, 12, zn),
  .inr (0, 12, zn),
  .inr (0, 12, zn),
  .inr (0, 12, zn),
  .inr (0, 108, zn),
  .inr (0, 6, zn),
  .inr (0, 6, zn),
  .inl (5, [.inr .int, .inl (some 118), .inl (some 119), .inl (some 120), .inl (some 121), .inl (some 122), .inl (some 123), .inl (some 124), .inr .int, .inl (some 125), .inl (some 126)]),
  .inr (0, 12, zn),
  .inr (0, 12, zn),
  .inr (0, 12, zn),
  .inr (0, 12, zn),
  .inr (0, 12, zn),
  .inr (0, 12, zn),
  .inr (0, 108, zn),
  .inr (0, 6, zn),
  .inr (0, 6, zn),
  .inl (5, [.inr .int, .inl (some 128), .inl (some 129), .inl (some 130), .inl (some 131), .inl (some 132), .inl (some 133), .inl (some 134), .inr .int, .inl (some 135), .inl (some 136)]),
  .inr (0, 12, zn),
  .inr (0, 12, zn),
  .inr (0, 12, zn),
  .inr (0, 12, zn),
  .inr (0, 12, zn),
  .inr (0, 12, zn),
  .inr (0, 108, zn),
  .inr (0, 6, zn),
  .inr (0, 6, zn),
  .inl (5, [.inr .int, .inl (some 138), .inl (some 139), .inl (some 140), .inl (some 141), .inl (some 142), .inl (some 143), .inl (some 144), .inr .int, .inl (some 145), .inl (some 146)]),
  .inr (0, 12, zn),
  .inr (0, 12, zn),
  .inr (0, 12, zn),
  .inr (0, 12, zn),
  .inr (0, 12, zn),
  .inr (0, 12, zn),
  .inr (0, 108, zn),
  .inr (0, 6, zn),
  .inr (0, 6, zn),
  .inl (5, [.inr .int, .inl (some 148), .inl (some 149), .inl (some 150), .inl (some 151), .inl (some 152), .inl (some 153), .inl (some 154), .inr .int, .inl (some 155), .inl (some 156)]),
  .inr (0, 12, zn),
  .inr (0, 12, zn),
  .inr (0, 12, zn),
  .inr (0, 12, zn),
  .inr (0, 12, zn),
  .inr (0, 12, zn),
  .inr (0, 108, zn),
  .inr (0, 6, zn),
  .inr (0, 6, zn),
  .inl (5, [.inr .int, .inl (some 158), .inl (some 159), .inl (some 160), .inl (some 161), .inl (some 162), .inl (some 163), .inl (some 164), .inr .int, .inl (some 165), .inl (some 166)]),
  .inr (0, 12, zn),
  .inr (0, 12, zn),
  .inr (0, 12, zn),
  .inr (0, 12, zn),
  .inr (0, 12, zn),
  .inr (0, 12, zn),
  .inr (0, 108, zn),
  .inr (0, 6, zn),
  .inr (0, 6, zn),
  .inl (5, [.inr .int, .inl (some 168), .inl (some 169), .inl (some 170), .inl (some 171), .inl (some 172), .inl (some 173), .inl (some 174), .inr .int, .inl (some 175), .inl (some 176)]),
  .inr (0, 12, zn),
  .inr (0, 12, zn),
  .inr (0, 12, zn),
  .inr (0, 12, zn),
  .inr (0, 12, zn),
  .inr (0, 12, zn),
  .inr (0, 108, zn),
  .inr (0, 6, zn),
  .inr (0, 6, zn),
  .inl (8, [.inl (some 178), .inr .int]),
  .inr (0, 600, zn),
  .inl (3, [.inl (some 177), .inl (some 11), .inl (some 27), .inr .int, .inr .int, .inr .int, .inr .int, .inr .long, .inl (some 180), .inl (some 181), .inr .int, .inr .int, .inr .int, .inr .int, .inr .int]),
  .inr (1, 12, zn),
  .inr (1, 12, zn),
  .inl (4, [.inr .int, .inr .int, .inl (some 183), .inl (some 184), .inl (some 185), .inl (some 186), .inl (some 187), .inl (some 188)]),
  .inr (0, 64, zn),
  .inr (0, 64, zn),
  .inr (0, 64, zn),
  .inr (0, 64, zn),
  .inr (3, 12, zn),
  .inr (0, 12, zn),
  .inl (10, [.inl (some 190), .inr .int, .inr .int, .inr .int, .inr .int, .inl (some 191), .inl (some 192), .inl (some 193), .inl (some 194), .inl (some 195), .inl (some 196), .inr .int, .inr .int, .inr .int, .inr .int, .inr .int, .inr .int, .inr .int, .inr .int, .inr .int, .inr .int, .inr .long, .inl (some 197), .inl (some 198), .inl (some 199), .inl (some 200), .inl (some 201), .inl (some 202), .inl (some 203), .inl (some 204), .inl (some 205), .inl (some 206), .inl (some 207), .inl (some 208), .inl (some 209), .inr .int, .inr .int, .inl (some 210), .inl (some 211), .inl (some 212), .inl (some 213), .inl (some 214), .inl (some 215), .inr .int, .inr .int, .inl (some 216), .inl (some 217), .inl (some 218), .inl (some 219), .inr .int]),
  .inr (0, 1940, zn),
  .inr (1, 12, zn),
  .inr (1, 12, zn),
  .inr (1, 12, zn),
  .inr (3, 12, zn),
  .inr (3, 12, zn),
  .inr (2, 600, zn),
  .inr (1, 16, zn),
  .inr (1, 12, zn),
  .inr (1, 12, zn),
  .inr (0, 12, zn),
  .inr (0, 12, zn),
  .inr (0, 96, zn),
  .inr (1, 96, zn),
  .inr (1, 96, zn),
  .inr (1, 96, zn),
  .inr (0, 96, zn),
  .inr (0, 6, zn),
  .inr (0, 12, zn),
  .inr (0, 12, zn),
  .inr (0, 12, zn),
  .inr (0, 12, zn),
  .inr (0, 12, zn),
  .inr (0, 12, zn),
  .inr (3, 2000, zn),
  .inr (1, 2000, zn),
  .inr (0, 64, zn),
  .inr (0, 64, zn),
  .inr (0, 64, zn),
  .inr (0, 64, zn)]
def SH (k : Nat) : zSh := SHL.getD k (.inr (0, 0, zn))
theorem sh_1 : zSw SH 1 := ⟨by decide, rfl, rfl, rfl, rfl, rfl, rfl, rfl, rfl, rfl, rfl⟩
theorem sh_11 : zSw SH 11 := ⟨by decide, rfl, rfl, rfl, rfl, rfl, rfl, rfl, rfl, rfl, rfl⟩
theorem sh_97 : zSw SH 97 := ⟨by decide, rfl, rfl, rfl, rfl, rfl, rfl, rfl, rfl, rfl, rfl⟩
theorem sh_107 : zSw SH 107 := ⟨by decide, rfl, rfl, rfl, rfl, rfl, rfl, rfl, rfl, rfl, rfl⟩
theorem sh_117 : zSw SH 117 := ⟨by decide, rfl, rfl, rfl, rfl, rfl, rfl, rfl, rfl, rfl, rfl⟩
theorem sh_127 : zSw SH 127 := ⟨by decide, rfl, rfl, rfl, rfl, rfl, rfl, rfl, rfl, rfl, rfl⟩
theorem sh_137 : zSw SH 137 := ⟨by decide, rfl, rfl, rfl, rfl, rfl, rfl, rfl, rfl, rfl, rfl⟩
theorem sh_147 : zSw SH 147 := ⟨by decide, rfl, rfl, rfl, rfl, rfl, rfl, rfl, rfl, rfl, rfl⟩
theorem sh_157 : zSw SH 157 := ⟨by decide, rfl, rfl, rfl, rfl, rfl, rfl, rfl, rfl, rfl, rfl⟩
theorem sh_167 : zSw SH 167 := ⟨by decide, rfl, rfl, rfl, rfl, rfl, rfl, rfl, rfl, rfl, rfl⟩
theorem mo_34 : zMo SH 34 := ⟨by decide, rfl, rfl, rfl, rfl, rfl, rfl, rfl, rfl⟩
theorem mo_45 : zMo SH 45 := ⟨by decide, rfl, rfl, rfl, rfl, rfl, rfl, rfl, rfl⟩
theorem mo_53 : zMo SH 53 := ⟨by decide, rfl, rfl, rfl, rfl, rfl, rfl, rfl, rfl⟩
theorem mo_61 : zMo SH 61 := ⟨by decide, rfl, rfl, rfl, rfl, rfl, rfl, rfl, rfl⟩
theorem mo_69 : zMo SH 69 := ⟨by decide, rfl, rfl, rfl, rfl, rfl, rfl, rfl, rfl⟩
theorem mo_77 : zMo SH 77 := ⟨by decide, rfl, rfl, rfl, rfl, rfl, rfl, rfl, rfl⟩
theorem mo_85 : zMo SH 85 := ⟨by decide, rfl, rfl, rfl, rfl, rfl, rfl, rfl, rfl⟩
theorem la_21 : zLa SH 21 := ⟨by decide, rfl, rfl, rfl, rfl, rfl, rfl⟩
theorem la_27 : zLa SH 27 := ⟨by decide, rfl, rfl, rfl, rfl, rfl, rfl⟩
/-! contracts of methods that make nothing: by what they answer -/
def zI (n : Nat) (sh : Nat → zSh) (P : Int → zSt → Prop) : zPost := fun r n' sh' σ' => (∃ a, r = some (vi a) ∧ P a σ') ∧ n' = n ∧ sh' = sh
def zL (n : Nat) (sh : Nat → zSh) (P : Int → zSt → Prop) : zPost := fun r n' sh' σ' => (∃ a, r = some (vl a) ∧ P a σ') ∧ n' = n ∧ sh' = sh
def zV (n : Nat) (sh : Nat → zSh) (P : zSt → Prop) : zPost := fun r n' sh' σ' => (r = none ∧ P σ') ∧ n' = n ∧ sh' = sh
def zO (G : zG) (n : Nat) (sh : Nat → zSh) (P : Nat → zSt → Prop) : zPost := fun r n' sh' σ' => (∃ q, r = some (vr G q) ∧ P q σ') ∧ n' = n ∧ sh' = sh
section GO
variable {G : zG} {X : zX} {M : zM} {κ : zK} {n : Nat} {sh : Nat → zSh} {σ : zSt} {pc : Nat} {L L' : List (Nat × Value)} {st : List Value} {post : zPost}
theorem zκ0 (κ : zK) : ((κ.1, κ.2.1 + 0, κ.2.2.1 + 0, κ.2.2.2.1, κ.2.2.2.2) : zK) = κ := rfl
theorem g_retI {a : Int} {P : Int → zSt → Prop} {ty : FieldType} (hd : decode M.1 pc = .ok (.ireturn, 1)) (hr : M.2.2.2.1 = some ty) (hty : ty = .int ∨ ty = .boolean ∧ (a = 0 ∨ a = 1)) (hκ : κ.2.1 ≤ κ.2.2.2.1 ∧ κ.2.2.1 ≤ κ.2.2.2.2) (hp : P a σ) : Go G X M κ n sh σ pc L [vi a] (zI n sh P) := g_iret hd hr hty hκ ⟨⟨a, rfl, hp⟩, rfl, rfl⟩
theorem g_retL {a : Int} {P : Int → zSt → Prop} (hd : decode M.1 pc = .ok (.lreturn, 1)) (hr : M.2.2.2.1 = some .long) (hκ : κ.2.1 ≤ κ.2.2.2.1 ∧ κ.2.2.1 ≤ κ.2.2.2.2) (hp : P a σ) : Go G X M κ n sh σ pc L [vl a] (zL n sh P) := g_lret hd hr hκ ⟨⟨a, rfl, hp⟩, rfl, rfl⟩
theorem g_retV {P : zSt → Prop} (hd : decode M.1 pc = .ok (.return_, 1)) (hr : M.2.2.2.1 = none) (hκ : κ.2.1 ≤ κ.2.2.2.1 ∧ κ.2.2.1 ≤ κ.2.2.2.2) (hp : P σ) : Go G X M κ n sh σ pc L [] (zV n sh P) := g_ret hd hr hκ ⟨⟨rfl, hp⟩, rfl, rfl⟩
theorem g_retO {q : Nat} {P : Nat → zSt → Prop} {cn : String} (hd : decode M.1 pc = .ok (.areturn, 1)) (hr : M.2.2.2.1 = some (.object cn)) (hκ : κ.2.1 ≤ κ.2.2.2.1 ∧ κ.2.2.1 ≤ κ.2.2.2.2) (hp : P q σ) : Go G X M κ n sh σ pc L [vr G q] (zO G n sh P) := g_aret hd hr hκ ⟨⟨q, rfl, hp⟩, rfl, rfl⟩
theorem g_cVI {y : MethodName} {M' : zM} {d na k ci x : Nat} {fl : List (Option Nat ⊕ FieldType)} {As : List Value} {P : Int → zSt → Prop} {st0 : List Value} (hm : Gm G y M' d 0 0 (vr G k :: As) n sh σ (zI n sh P)) (hy : zCalV y M' na) (hl : Cond.methodLink M.2.1 x y ∈ zT) (hd : decode M.1 pc = .ok (.invokevirtual x, 3)) (hk : k < n) (hs : sh k = .inl (ci, fl)) (hc : (zcl[ci]?).map (·.1) = some y.cls) (hn : As.length = na) (hst : st0 = As.reverse ++ vr G k :: st) (hw : (st.map fun v => v.category).sum ≤ 8) (hR : d + 1 ≤ κ.1) (hmc : κ.2.1 ≤ κ.2.2.2.1 ∧ κ.2.2.1 ≤ κ.2.2.2.2)
    (kk : ∀ (a : Int) (σ' : zSt), P a σ' → Go G X M κ n sh σ' (pc + 3) L (vi a :: st) post) : Go G X M κ n sh σ pc L st0 post := by
  refine g_callV hm hy hl hd hk hs hc hn hst hw hR hmc ?_
  rintro r n' sh' σ' ⟨⟨a, rfl, hp⟩, rfl, rfl⟩
  exact ⟨rfl, kk a σ' hp⟩
theorem g_cSI {y : MethodName} {M' : zM} {d na x : Nat} {As : List Value} {P : Int → zSt → Prop} {st0 : List Value} (hm : Gm G y M' d 0 0 As n sh σ (zI n sh P)) (hy : zCalS y M' na) (hl : Cond.methodLink M.2.1 x y ∈ zT) (hd : decode M.1 pc = .ok (.invokestatic x, 3)) (hn : As.length = na) (hst : st0 = As.reverse ++ st) (hw : (st.map fun v => v.category).sum ≤ 8) (hR : d + 1 ≤ κ.1) (hmc : κ.2.1 ≤ κ.2.2.2.1 ∧ κ.2.2.1 ≤ κ.2.2.2.2)
    (kk : ∀ (a : Int) (σ' : zSt), P a σ' → Go G X M κ n sh σ' (pc + 3) L (vi a :: st) post) : Go G X M κ n sh σ pc L st0 post := by
  refine g_callS hm hy hl hd hn hst hw hR hmc ?_
  rintro r n' sh' σ' ⟨⟨a, rfl, hp⟩, rfl, rfl⟩
  exact ⟨rfl, kk a σ' hp⟩
theorem g_cVL {y : MethodName} {M' : zM} {d na k ci x : Nat} {fl : List (Option Nat ⊕ FieldType)} {As : List Value} {P : Int → zSt → Prop} {st0 : List Value} (hm : Gm G y M' d 0 0 (vr G k :: As) n sh σ (zL n sh P)) (hy : zCalV y M' na) (hl : Cond.methodLink M.2.1 x y ∈ zT) (hd : decode M.1 pc = .ok (.invokevirtual x, 3)) (hk : k < n) (hs : sh k = .inl (ci, fl)) (hc : (zcl[ci]?).map (·.1) = some y.cls) (hn : As.length = na) (hst : st0 = As.reverse ++ vr G k :: st) (hw : (st.map fun v => v.category).sum ≤ 8) (hR : d + 1 ≤ κ.1) (hmc : κ.2.1 ≤ κ.2.2.2.1 ∧ κ.2.2.1 ≤ κ.2.2.2.2)
    (kk : ∀ (a : Int) (σ' : zSt), P a σ' → Go G X M κ n sh σ' (pc + 3) L (vl a :: st) post) : Go G X M κ n sh σ pc L st0 post := by
  refine g_callV hm hy hl hd hk hs hc hn hst hw hR hmc ?_
  rintro r n' sh' σ' ⟨⟨a, rfl, hp⟩, rfl, rfl⟩
  exact ⟨rfl, kk a σ' hp⟩
theorem g_cSL {y : MethodName} {M' : zM} {d na x : Nat} {As : List Value} {P : Int → zSt → Prop} {st0 : List Value} (hm : Gm G y M' d 0 0 As n sh σ (zL n sh P)) (hy : zCalS y M' na) (hl : Cond.methodLink M.2.1 x y ∈ zT) (hd : decode M.1 pc = .ok (.invokestatic x, 3)) (hn : As.length = na) (hst : st0 = As.reverse ++ st) (hw : (st.map fun v => v.category).sum ≤ 8) (hR : d + 1 ≤ κ.1) (hmc : κ.2.1 ≤ κ.2.2.2.1 ∧ κ.2.2.1 ≤ κ.2.2.2.2)
    (kk : ∀ (a : Int) (σ' : zSt), P a σ' → Go G X M κ n sh σ' (pc + 3) L (vl a :: st) post) : Go G X M κ n sh σ pc L st0 post := by
  refine g_callS hm hy hl hd hn hst hw hR hmc ?_
  rintro r n' sh' σ' ⟨⟨a, rfl, hp⟩, rfl, rfl⟩
  exact ⟨rfl, kk a σ' hp⟩
theorem g_cVO {y : MethodName} {M' : zM} {d na k ci x : Nat} {fl : List (Option Nat ⊕ FieldType)} {As : List Value} {P : Nat → zSt → Prop} {st0 : List Value} (hm : Gm G y M' d 0 0 (vr G k :: As) n sh σ (zO G n sh P)) (hy : zCalV y M' na) (hl : Cond.methodLink M.2.1 x y ∈ zT) (hd : decode M.1 pc = .ok (.invokevirtual x, 3)) (hk : k < n) (hs : sh k = .inl (ci, fl)) (hc : (zcl[ci]?).map (·.1) = some y.cls) (hn : As.length = na) (hst : st0 = As.reverse ++ vr G k :: st) (hw : (st.map fun v => v.category).sum ≤ 8) (hR : d + 1 ≤ κ.1) (hmc : κ.2.1 ≤ κ.2.2.2.1 ∧ κ.2.2.1 ≤ κ.2.2.2.2)
    (kk : ∀ (a : Nat) (σ' : zSt), P a σ' → Go G X M κ n sh σ' (pc + 3) L (vr G a :: st) post) : Go G X M κ n sh σ pc L st0 post := by
  refine g_callV hm hy hl hd hk hs hc hn hst hw hR hmc ?_
  rintro r n' sh' σ' ⟨⟨a, rfl, hp⟩, rfl, rfl⟩
  exact ⟨rfl, kk a σ' hp⟩
theorem g_cSO {y : MethodName} {M' : zM} {d na x : Nat} {As : List Value} {P : Nat → zSt → Prop} {st0 : List Value} (hm : Gm G y M' d 0 0 As n sh σ (zO G n sh P)) (hy : zCalS y M' na) (hl : Cond.methodLink M.2.1 x y ∈ zT) (hd : decode M.1 pc = .ok (.invokestatic x, 3)) (hn : As.length = na) (hst : st0 = As.reverse ++ st) (hw : (st.map fun v => v.category).sum ≤ 8) (hR : d + 1 ≤ κ.1) (hmc : κ.2.1 ≤ κ.2.2.2.1 ∧ κ.2.2.1 ≤ κ.2.2.2.2)
    (kk : ∀ (a : Nat) (σ' : zSt), P a σ' → Go G X M κ n sh σ' (pc + 3) L (vr G a :: st) post) : Go G X M κ n sh σ pc L st0 post := by
  refine g_callS hm hy hl hd hn hst hw hR hmc ?_
  rintro r n' sh' σ' ⟨⟨a, rfl, hp⟩, rfl, rfl⟩
  exact ⟨rfl, kk a σ' hp⟩
theorem g_cVV {y : MethodName} {M' : zM} {d na k ci x : Nat} {fl : List (Option Nat ⊕ FieldType)} {As : List Value} {P : zSt → Prop} {st0 : List Value} (hm : Gm G y M' d 0 0 (vr G k :: As) n sh σ (zV n sh P)) (hy : zCalV y M' na) (hl : Cond.methodLink M.2.1 x y ∈ zT) (hd : decode M.1 pc = .ok (.invokevirtual x, 3)) (hk : k < n) (hs : sh k = .inl (ci, fl)) (hc : (zcl[ci]?).map (·.1) = some y.cls) (hn : As.length = na) (hst : st0 = As.reverse ++ vr G k :: st) (hw : (st.map fun v => v.category).sum ≤ 8) (hR : d + 1 ≤ κ.1) (hmc : κ.2.1 ≤ κ.2.2.2.1 ∧ κ.2.2.1 ≤ κ.2.2.2.2)
    (kk : ∀ (σ' : zSt), P σ' → Go G X M κ n sh σ' (pc + 3) L st post) : Go G X M κ n sh σ pc L st0 post := by
  refine g_callV hm hy hl hd hk hs hc hn hst hw hR hmc ?_
  rintro r n' sh' σ' ⟨⟨rfl, hp⟩, rfl, rfl⟩
  exact ⟨rfl, kk σ' hp⟩
end GO
