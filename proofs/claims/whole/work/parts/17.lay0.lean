/-! HOW LONG THE CLIPS ARE: a Show S (S 0 0 clips, S 0 8 presses; S 1 kind, S 2 around, S 3 place, S 4 how, S 5 other, S 6 much, S 7 marks, S 8 keys, S 9 times) -/
def zSv (σ : zSt) (b : Nat) : zSt := fun r => σ (b + r)
def zN (S : zSt) : Nat := (S 0 0).toNat
/-- the clip at place p within q, or -1 -/
def zch (S : zSt) (q p : Int) : Int := zfst (fun j => decide (S 2 j = q ∧ S 3 j = p)) (zN S)
/-- one behind the other within q: the end of those at places below p -/
def zEn (S : zSt) (ac : Nat → Int) (q : Nat) : Nat → Int
  | 0 => 0
  | p + 1 => if zch S q p = -1 then zEn S ac q p else zEn S ac q p + S 6 (zch S q p).toNat + ac (zch S q p).toNat
theorem zEn_s (S : zSt) (ac : Nat → Int) (q p : Nat) : zEn S ac q (p + 1) = if zch S q p = -1 then zEn S ac q p else zEn S ac q p + S 6 (zch S q p).toNat + ac (zch S q p).toNat := rfl
/-- by whom it starts at last -/
def zBs (S : zSt) : Nat → Nat → Nat
  | 0, k => k
  | f + 1, k => if zby (S 4 k) = true then zBs S f (S 5 k).toNat else k
theorem zBs_s (S : zSt) (f k : Nat) : zBs S (f + 1) k = if zby (S 4 k) = true then zBs S f (S 5 k).toNat else k := rfl
/-- the way by others, in so many steps: what lies between -/
def zBw (S : zSt) (ac : Nat → Int) : Nat → Nat → Int
  | 0, _ => 0
  | f + 1, k => if zby (S 4 k) = true then S 6 k + (if S 4 k = 2 then ac (S 5 k).toNat else 0) + zBw S ac f (S 5 k).toNat else 0
theorem zBw_s (S : zSt) (ac : Nat → Int) (f k : Nat) : zBw S ac (f + 1) k = if zby (S 4 k) = true then S 6 k + (if S 4 k = 2 then ac (S 5 k).toNat else 0) + zBw S ac f (S 5 k).toNat else 0 := rfl
def zOp (S : zSt) (k : Nat) : Bool := decide (S 4 (zBs S 12 k) = 3)
/-- where it begins within what is at once -/
def zBg (S : zSt) (ac : Nat → Int) (k : Nat) : Int := zBw S ac 12 k + (if zOp S k = true then 0 else S 6 (zBs S 12 k))
/-- the greatest end of those below i within q that aren't open -/
def zMx (S : zSt) (ac : Nat → Int) (q : Nat) : Nat → Int
  | 0 => 0
  | i + 1 => if q < i ∧ S 2 i = q ∧ zOp S i = false then max (zMx S ac q i) (zBg S ac i + ac i) else zMx S ac q i
theorem zMx_s (S : zSt) (ac : Nat → Int) (q i : Nat) : zMx S ac q (i + 1) = if q < i ∧ S 2 i = q ∧ zOp S i = false then max (zMx S ac q i) (zBg S ac i + ac i) else zMx S ac q i := rfl
def zSi (S : zSt) (ac : Nat → Int) (k : Nat) : Int := if 0 < S 7 (9 * k) then S 7 (9 * k) else if S 1 k = 0 then 10 else if S 1 k = 2 then zEn S ac k 12 else zMx S ac k (zN S)
def zAcW (S : zSt) (si : Int) (k : Nat) : Int := (si * S 7 (9 * k + 2) + S 7 (9 * k + 1) - 1) / S 7 (9 * k + 1)
def zAc (S : zSt) (si : Int) (k : Nat) : Int := if 0 < S 7 (9 * k + 3) ∧ S 7 (9 * k + 3) < zAcW S si k then S 7 (9 * k + 3) else zAcW S si k
/-- where a clip begins within what is around it -/
def zBe (S : zSt) (ac : Nat → Int) (k : Nat) : Int := if S 2 k = -1 then S 6 k else if S 1 (S 2 k).toNat = 2 then zEn S ac (S 2 k).toNat (S 3 k).toNat + S 6 k else zBg S ac k
def zOk (S : zSt) (k : Nat) : Bool := if S 2 k = -1 then false else if S 1 (S 2 k).toNat = 2 then false else zOp S k
/-- THE LAYOUT of a Show: lengths that fit each other -/
def zLay (S : zSt) (si ac : Nat → Int) : Prop := ∀ k, k < zN S → si k = zSi S ac k ∧ ac k = zAc S (si k) k
