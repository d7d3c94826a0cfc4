section OPS4
variable {S T : zSt} {d r : Nat → Nat} {k : Nat}
/-! a clip gone, with all within it -/
theorem zcnt_not (w : Nat → Bool) : ∀ n, zcnt w n + zcnt (fun i => !(w i)) n = n
  | 0 => rfl
  | n + 1 => by
    have ih := zcnt_not w n
    by_cases e : w n = true
    · rw [zcnt_t e, zcnt_f (by rw [e]; rfl)]; omega
    · rw [zcnt_f (Bool.eq_false_iff.mpr e), zcnt_t (by rw [Bool.eq_false_iff.mpr e]; rfl)]; omega
theorem zcnt_kept {K P : Nat → Bool} : ∀ n, zcnt P (zcnt K n) = zcnt (fun i => K i && P (zcnt K i)) n
  | 0 => rfl
  | n + 1 => by
    have ih := zcnt_kept (K := K) (P := P) n
    by_cases e : K n = true
    · rw [zcnt_t e]
      by_cases e2 : P (zcnt K n) = true
      · rw [zcnt_t e2, zcnt_t (by rw [e, e2]; rfl), ih]
      · rw [zcnt_f (Bool.eq_false_iff.mpr e2), zcnt_f (by rw [Bool.eq_false_iff.mpr e2, Bool.and_false]), ih]
    · rw [zcnt_f (Bool.eq_false_iff.mpr e), zcnt_f (by rw [Bool.eq_false_iff.mpr e, Bool.false_and]), ih]
theorem zcnt_up {p : Nat → Bool} : ∀ {i j : Nat}, i ≤ j → zcnt p i ≤ zcnt p j := by
  intro i j h
  induction j with
  | zero => rw [show i = 0 by omega]; exact Nat.le_refl _
  | succ j ih =>
    by_cases z : i = j + 1
    · rw [z]; exact Nat.le_refl _
    · have a := ih (by omega)
      have b : zcnt p (j + 1) = zcnt p j + (if p j = true then 1 else 0) := rfl
      omega
/-- the j-th of those that stay -/
def zkg (K : Nat → Bool) (N j : Nat) : Nat := (zfst (fun i => K i && decide (zcnt K i = j)) N).toNat
theorem zcnt_hit {K : Nat → Bool} : ∀ {n j : Nat}, j < zcnt K n → ∃ i, i < n ∧ K i = true ∧ zcnt K i = j
  | 0, j, h => absurd h (Nat.not_lt_zero _)
  | n + 1, j, h => by
    by_cases e : K n = true
    · rw [zcnt_t e] at h
      by_cases z : j = zcnt K n
      · exact ⟨n, by omega, e, z.symm⟩
      · obtain ⟨i, h1, h2⟩ := zcnt_hit (K := K) (n := n) (j := j) (by omega)
        exact ⟨i, by omega, h2⟩
    · rw [zcnt_f (Bool.eq_false_iff.mpr e)] at h
      obtain ⟨i, h1, h2⟩ := zcnt_hit (K := K) (n := n) (j := j) h
      exact ⟨i, by omega, h2⟩
theorem zkg_in {K : Nat → Bool} {N j : Nat} (h : j < zcnt K N) : zkg K N j < N ∧ K (zkg K N j) = true ∧ zcnt K (zkg K N j) = j := by
  unfold zkg
  rcases zfst_spec (p := fun i => K i && decide (zcnt K i = j)) (n := N) with ⟨-, b⟩ | ⟨i, e, hi, b, -⟩
  · obtain ⟨i, h1, h2, h3⟩ := zcnt_hit h
    have c := b i h1
    rw [h2, decide_eq_true h3] at c
    exact absurd c (by decide)
  · rw [e, Int.toNat_natCast]
    rw [Bool.and_eq_true] at b
    exact ⟨hi, b.1, of_decide_eq_true b.2⟩
theorem zkg_of {K : Nat → Bool} {N i : Nat} (hi : i < N) (h : K i = true) : zkg K N (zcnt K i) = i := by
  obtain ⟨a1, a2, a3⟩ := zkg_in (K := K) (N := N) (j := zcnt K i) (zcnt_lt hi h)
  rcases Nat.lt_trichotomy (zkg K N (zcnt K i)) i with z | z | z
  · have := zcnt_lt z a2; omega
  · exact z
  · have := zcnt_lt z h; omega
theorem zkg_lt {K : Nat → Bool} {N i j : Nat} (h : i < j) (hj : j < zcnt K N) : zkg K N i < zkg K N j := by
  obtain ⟨a1, a2, a3⟩ := zkg_in (K := K) (N := N) (j := i) (by omega)
  obtain ⟨b1, b2, b3⟩ := zkg_in (K := K) (N := N) (j := j) hj
  rcases Nat.lt_or_ge (zkg K N i) (zkg K N j) with z | z
  · exact z
  · have := zcnt_up (p := K) z; omega
/-- those that stay when k goes -/
def zKe (S : zSt) (k : Nat) : Nat → Bool := fun j => !(zwi (S 2) k 12 j)
theorem zKe_up (hv : zVal S d r) {i : Nat} (hi : i < zN S) (h : zKe S k i = true) : i ≠ k ∧ (S 2 i ≠ -1 → zKe S k (S 2 i).toNat = true) := by
  have v1 := hv.1.1
  have t := hv.2.1 i hi
  unfold zKe at *
  have e : zwi (S 2) k 12 i = false := by cases e : zwi (S 2) k 12 i with
    | false => rfl
    | true => rw [e] at h; exact absurd h (by decide)
  have st := zwi_s (S 2) k 11 i
  rw [e] at st
  by_cases z : i = k
  · rw [if_pos z] at st; exact absurd st (by decide)
  · refine ⟨z, fun y => ?_⟩
    rw [if_neg z, if_neg y, zwi_enough (N := zN S) (fun k hk => (hv.2.1 k hk).1) (fun k hk => (hv.2.1 k hk).2.1) 11 12 (S 2 i).toNat (by omega) (by omega) (by omega)] at st
    rw [← st]; rfl
theorem zKe_sib (hv : zVal S d r) {i o : Nat} (hi : i < zN S) (ho : o < zN S) (h : zKe S k i = true) (h2 : S 2 o = S 2 i) (hok : o ≠ k) : zKe S k o = true := by
  have v1 := hv.1.1
  have t := hv.2.1 o ho
  have u := (zKe_up hv hi h).2
  rw [← h2] at u
  unfold zKe at *
  have st := zwi_s (S 2) k 11 o
  rw [if_neg hok] at st
  by_cases y : S 2 o = -1
  · rw [if_pos y] at st; rw [st]; rfl
  · rw [if_neg y, zwi_enough (N := zN S) (fun k hk => (hv.2.1 k hk).1) (fun k hk => (hv.2.1 k hk).2.1) 11 12 (S 2 o).toNat (by omega) (by omega) (by omega)] at st
    have w := u y
    rw [← st] at w; exact w
theorem zKe_0 (hv : zVal S d r) (h0 : 0 < zN S) (hk : k ≠ 0) : zKe S k 0 = true := by
  have t := hv.2.1 0 h0
  unfold zKe
  rw [zwi_s, if_neg (fun y => hk y.symm), if_pos (t.2.2.mp rfl)]; rfl
theorem zren_k (w : Nat → Bool) {x : Int} (hx : 0 ≤ x) : zren w x = (zcnt (fun i => !(w i)) x.toNat : Int) := by
  unfold zren
  have := zcnt_not w x.toNat
  rw [if_neg (by omega)]; omega
/-- what of S has come to T: the clips that stay, by their new numbers -/
def zLos (S T : zSt) (k : Nat) : Prop := (T 0 0 = (zcnt (zKe S k) (zN S) : Int) ∧ T 0 8 = S 0 8) ∧ (∀ i, i < zN S → zKe S k i = true → T 1 (zcnt (zKe S k) i) = S 1 i ∧ T 2 (zcnt (zKe S k) i) = (if S 2 i = -1 then -1 else (zcnt (zKe S k) (S 2 i).toNat : Int)) ∧ T 3 (zcnt (zKe S k) i) = zpl S 0 k i ∧ T 4 (zcnt (zKe S k) i) = S 4 i ∧ T 5 (zcnt (zKe S k) i) = (if S 5 i = -1 then -1 else (zcnt (zKe S k) (S 5 i).toNat : Int)) ∧ T 6 (zcnt (zKe S k) i) = S 6 i ∧ ∀ u, u < 9 → T 7 (9 * zcnt (zKe S k) i + u) = S 7 (9 * i + u)) ∧ ∀ i, i < (S 0 8).toNat → T 8 i = S 8 i ∧ T 9 i = S 9 i
theorem zDrop_los (hv : zVal S d r) (h5 : ∀ i, i < zN S → -1 ≤ S 5 i) (h : zDrop S T 0 k) : zLos S T k := by
  obtain ⟨h1, h2, h3, h4⟩ := h
  refine ⟨⟨by rw [h3, zu_eq]; rfl, by rw [h3, zu_ne (by decide)]⟩, fun i hi hK => ?_, fun i hi => by rw [h4 8 (by omega), h4 9 (by omega)]; exact ⟨rfl, rfl⟩⟩
  have e : zwi (S 2) k 12 i = false := by
    unfold zKe at hK
    cases e : zwi (S 2) k 12 i with
    | false => rfl
    | true => rw [e] at hK; exact absurd hK (by decide)
  have t := hv.2.1 i hi
  obtain ⟨a1, a2, a3, a4, a5, a6, a7⟩ := h1 i hi e
  simp only [Nat.zero_add] at a1 a2 a3 a4 a5 a6 a7
  refine ⟨a1, ?_, a3, a4, ?_, a6, a7⟩
  · show T 2 _ = _
    by_cases z : S 2 i = -1
    · rw [if_pos z]; refine a2.trans ?_; unfold zren; rw [if_pos z]
    · rw [if_neg z]; refine a2.trans ?_; exact zren_k _ (by omega)
  · by_cases z : S 5 i = -1
    · rw [if_pos z]; refine a5.trans ?_; unfold zren; rw [if_pos z]
    · have := h5 i hi
      rw [if_neg z]; refine a5.trans ?_; exact zren_k _ (by omega)
/-- two such have the same numbers -/
theorem zLos.eqv {U : zSt} (h : zLos S T k) (g : zLos S U k) : zEqv T U := by
  obtain ⟨⟨h0, h8⟩, h1, h2⟩ := h
  obtain ⟨⟨g0, g8⟩, g1, g2⟩ := g
  have hT : zN T = zcnt (zKe S k) (zN S) := by unfold zN; rw [h0]; exact Int.toNat_natCast _
  refine ⟨⟨by rw [h0, g0], by rw [h8, g8]⟩, fun j hj => ?_, fun j hj => ?_, fun i hi => ?_⟩
  · rw [hT] at hj
    obtain ⟨a1, a2, a3⟩ := zkg_in hj
    have x := h1 _ a1 a2
    have y := g1 _ a1 a2
    rw [a3] at x y
    obtain ⟨x1, x2, x3, x4, x5, x6, -⟩ := x
    obtain ⟨y1, y2, y3, y4, y5, y6, -⟩ := y
    intro r r1 r2
    rcases (by omega : r = 1 ∨ r = 2 ∨ r = 3 ∨ r = 4 ∨ r = 5 ∨ r = 6) with rfl | rfl | rfl | rfl | rfl | rfl
    · rw [x1, y1]
    · rw [x2, y2]
    · rw [x3, y3]
    · rw [x4, y4]
    · rw [x5, y5]
    · rw [x6, y6]
  · rw [hT] at hj
    obtain ⟨a1, a2, a3⟩ := zkg_in hj
    have x := (h1 _ a1 a2).2.2.2.2.2.2
    have y := (g1 _ a1 a2).2.2.2.2.2.2
    rw [a3] at x y
    intro w hw
    rw [x w hw, y w hw]
  · rw [h8] at hi
    rw [(h2 i hi).1, (h2 i hi).2, (g2 i hi).1, (g2 i hi).2]; exact ⟨rfl, rfl⟩
theorem zLos_val (hv : zVal S d r) (hk : k < zN S) (h0 : k = 0 → zN S = 1) (hs : ∀ i, i < zN S → zby (S 4 i) = true → S 5 i ≠ (k : Int)) (h : zLos S T k) : zVal T (fun j => d (zkg (zKe S k) (zN S) j)) (fun j => r (zkg (zKe S k) (zN S) j)) := by
  obtain ⟨⟨n0, -⟩, h1, -⟩ := h
  have v1 := hv.1.1
  have pg := hv.pg
  have hT : zN T = zcnt (zKe S k) (zN S) := by unfold zN; rw [n0]; exact Int.toNat_natCast _
  have G := fun (j : Nat) (hj : j < zN T) => zkg_in (K := zKe S k) (N := zN S) (j := j) (by rw [← hT]; exact hj)
  have R := fun (j : Nat) (hj : j < zN T) => by
    have x := h1 _ (G j hj).1 (G j hj).2.1
    rw [(G j hj).2.2] at x
    exact x
  have of := fun (i : Nat) (hi : i < zN S) (hK : zKe S k i = true) => zkg_of (K := zKe S k) (N := zN S) hi hK
  have root : ∀ j, j < zN T → (j = 0 ↔ zkg (zKe S k) (zN S) j = 0) := fun j hj => by
    have N0 : 0 < zN S := by omega
    have k0 : k ≠ 0 := fun y => by
      have e1 := h0 y
      have g := G j hj
      have u := (zKe_up hv g.1 g.2.1).1
      omega
    have K0 := zKe_0 hv N0 k0
    have e := of 0 N0 K0
    constructor
    · intro y; rw [y]; exact e
    · intro y
      have g := (G j hj).2.2
      rw [y] at g
      exact g.symm
  -- the parent of one that stays stays
  have par : ∀ j, j < zN T → (T 2 j = -1 ∧ S 2 (zkg (zKe S k) (zN S) j) = -1) ∨ (0 ≤ T 2 j ∧ (T 2 j).toNat < zN T ∧ 0 ≤ S 2 (zkg (zKe S k) (zN S) j) ∧ (S 2 (zkg (zKe S k) (zN S) j)).toNat = zkg (zKe S k) (zN S) (T 2 j).toNat ∧ (T 2 j).toNat < j) := fun j hj => by
    have g := G j hj
    have x := (R j hj).2.1
    have t := hv.2.1 _ g.1
    by_cases z : S 2 (zkg (zKe S k) (zN S) j) = -1
    · rw [if_pos z] at x; exact Or.inl ⟨x, z⟩
    · rw [if_neg z] at x
      have Kp := (zKe_up hv g.1 g.2.1).2 z
      have lt := zcnt_lt (p := zKe S k) (q := (S 2 (zkg (zKe S k) (zN S) j)).toNat) (i := zN S) (by omega) Kp
      have lt2 := zcnt_lt (p := zKe S k) (q := (S 2 (zkg (zKe S k) (zN S) j)).toNat) (i := zkg (zKe S k) (zN S) j) (by omega) Kp
      rw [g.2.2] at lt2
      refine Or.inr ⟨by omega, by omega, by omega, ?_, by omega⟩
      rw [x, Int.toNat_natCast, of _ (by omega) Kp]
  have sib : ∀ i j, i < zN T → j < zN T → (T 2 i = T 2 j ↔ S 2 (zkg (zKe S k) (zN S) i) = S 2 (zkg (zKe S k) (zN S) j)) := fun i j hi hj => by
    have a := par i hi
    have b := par j hj
    constructor
    · intro y
      rcases a with a | a
      · rcases b with b | b
        · omega
        · omega
      · rcases b with b | b
        · omega
        · rw [y] at a; omega
    · intro y
      have xi := (R i hi).2.1
      have xj := (R j hj).2.1
      rw [xi, xj, y]
  have kid : ∀ j, j < zN T → zcnt (fun i => decide (T 2 i = T 2 j)) (zN T) + (if S 2 k = S 2 (zkg (zKe S k) (zN S) j) then 1 else 0) = zcnt (fun i => decide (S 2 i = S 2 (zkg (zKe S k) (zN S) j))) (zN S) := fun j hj => by
    have g := G j hj
    rw [hT, zcnt_kept]
    have e1 : zcnt (fun i => zKe S k i && decide (T 2 (zcnt (zKe S k) i) = T 2 j)) (zN S) = zcnt (fun i => decide (S 2 i = S 2 (zkg (zKe S k) (zN S) j)) && decide (i ≠ k)) (zN S) := zcnt_congr (fun i hi => by
      cases e : zKe S k i with
      | true =>
        have lt := zcnt_lt hi e
        have s := sib (zcnt (zKe S k) i) j (by rw [hT]; exact lt) hj
        rw [of i hi e] at s
        rw [Bool.true_and, decide_eq_true (zKe_up hv hi e).1, Bool.and_true]
        exact decide_eq_decide.mpr s
      | false =>
        rw [Bool.false_and]
        symm
        by_cases z : i = k
        · rw [show decide (i ≠ k) = false from decide_eq_false (fun y => y z), Bool.and_false]
        · rw [decide_eq_false (fun y => by
            have := zKe_sib hv g.1 hi g.2.1 y z
            rw [e] at this
            exact absurd this (by decide)), Bool.false_and])
    rw [e1]
    by_cases z : S 2 k = S 2 (zkg (zKe S k) (zN S) j)
    · rw [if_pos z]
      have e2 : zcnt (fun i => decide (S 2 i = S 2 (zkg (zKe S k) (zN S) j))) (zN S) = zcnt (fun i => (decide (S 2 i = S 2 (zkg (zKe S k) (zN S) j)) && decide (i ≠ k)) || decide (i = k)) (zN S) := zcnt_congr (fun i hi => by
        by_cases y : i = k
        · rw [y, decide_eq_true z, decide_eq_true (rfl : k = k), Bool.or_true]
        · rw [decide_eq_true y, decide_eq_false y, Bool.and_true, Bool.or_false])
      rw [e2, zcnt_or hk, if_neg (by rw [show decide (k ≠ k) = false from decide_eq_false (fun y => y rfl), Bool.and_false]; decide)]
    · rw [if_neg z, Nat.add_zero]
      exact zcnt_congr (fun i hi => by
        by_cases y : i = k
        · rw [y, decide_eq_false z, Bool.false_and]
        · rw [decide_eq_true y, Bool.and_true])
  have pne : ∀ j, j < zN T → S 2 (zkg (zKe S k) (zN S) j) = S 2 k → S 3 (zkg (zKe S k) (zN S) j) ≠ S 3 k := fun j hj e2 e3 => (zKe_up hv (G j hj).1 (G j hj).2.1).1 (pg.2 _ _ (G j hj).1 hk e2 e3)
  have plv : ∀ j, j < zN T → (S 2 (zkg (zKe S k) (zN S) j) = S 2 k ∧ S 3 k < S 3 (zkg (zKe S k) (zN S) j) ∧ T 3 j = S 3 (zkg (zKe S k) (zN S) j) - 1) ∨ (¬ (S 2 (zkg (zKe S k) (zN S) j) = S 2 k ∧ S 3 k < S 3 (zkg (zKe S k) (zN S) j)) ∧ T 3 j = S 3 (zkg (zKe S k) (zN S) j)) := fun j hj => by
    have x := (R j hj).2.2.1
    unfold zpl at x
    simp only [Nat.zero_add] at x
    by_cases z : S 2 (zkg (zKe S k) (zN S) j) = S 2 k ∧ S 3 k < S 3 (zkg (zKe S k) (zN S) j)
    · rw [if_pos z] at x; exact Or.inl ⟨z.1, z.2, x⟩
    · rw [if_neg z] at x; exact Or.inr ⟨z, x⟩
  have PG' : zPg T := by
    refine ⟨fun j hj => ?_, fun i j hi hj e2 e3 => ?_⟩
    · have c := kid j hj
      have b := pg.1 _ (G j hj).1
      have bk := pg.1 k hk
      have p := plv j hj
      have ne := pne j hj
      by_cases z : S 2 k = S 2 (zkg (zKe S k) (zN S) j)
      · rw [if_pos z] at c
        rw [z] at bk
        have ne := ne z.symm
        omega
      · rw [if_neg z] at c
        have p2 : T 3 j = S 3 (zkg (zKe S k) (zN S) j) := by
          rcases p with p | p
          · exact absurd p.1.symm z
          · exact p.2
        omega
    · have s := (sib i j hi hj).mp e2
      have a := plv i hi
      have b := plv j hj
      have na := pne i hi
      have nb := pne j hj
      have e : zkg (zKe S k) (zN S) i = zkg (zKe S k) (zN S) j := by
        refine pg.2 _ _ (G i hi).1 (G j hj).1 s ?_
        by_cases z : S 2 (zkg (zKe S k) (zN S) j) = S 2 k
        · have na := na (by rw [s]; exact z)
          have nb := nb z
          omega
        · rw [s] at a
          have a2 : T 3 i = S 3 (zkg (zKe S k) (zN S) i) := by
            rcases a with a | a
            · exact absurd a.1 z
            · exact a.2
          have b2 : T 3 j = S 3 (zkg (zKe S k) (zN S) j) := by
            rcases b with b | b
            · exact absurd b.1 z
            · exact b.2
          omega
      have gi := (G i hi).2.2
      have gj := (G j hj).2.2
      rw [e, gj] at gi
      exact gi.symm
  refine ⟨⟨?_, fun j hj => ?_⟩, fun j hj => ?_, fun j hj => ?_, fun q hq j hj e2 b => ?_, PG'.pl ?_⟩
  · rw [hT]; have := zcnt_le (zKe S k) (zN S); omega
  · have g := G j hj
    refine ⟨(hv.1.2 _ g.1).1, fun i hi e2 => ?_⟩
    have p := par i hi
    dsimp only
    refine (hv.1.2 _ g.1).2 _ (G i hi).1 ?_
    rcases p with p | p
    · omega
    · have e3 : (T 2 i).toNat = j := by omega
      rw [e3] at p
      omega
  · have p := par j hj
    have rt := root j hj
    have t := hv.2.1 _ (G j hj).1
    refine ⟨by omega, by omega, ?_⟩
    constructor
    · intro y
      have e := t.2.2.mp (rt.mp y)
      rcases p with p | p
      · exact p.1
      · omega
    · intro y
      rcases p with p | p
      · exact rt.mpr (t.2.2.mpr p.2)
      · omega
  · have g := G j hj
    obtain ⟨x1, x2, x3, x4, x5, x6, x7⟩ := R j hj
    have b := hv.2.2.1 _ g.1
    have p := par j hj
    have rt := root j hj
    have m0 := x7 0 (by decide)
    rw [Nat.add_zero, Nat.add_zero] at m0
    refine ⟨?_, by rw [x1]; exact b.2.1, by rw [x4]; exact b.2.2.1, fun y => ?_, fun y => ?_⟩
    · unfold zMk at *
      rw [m0, x7 1 (by decide), x7 2 (by decide), x7 3 (by decide), x6]; exact b.1
    · have y2 : 0 < zkg (zKe S k) (zN S) j := by
        rcases Nat.eq_zero_or_pos (zkg (zKe S k) (zN S) j) with z | z
        · have := rt.mpr z; omega
        · exact z
      have c := b.2.2.2.1 y2
      have tt := hv.2.1 _ g.1
      rcases p with p | p
      · omega
      · rw [p.2.2.2.1] at c
        have xp := (R (T 2 j).toNat p.2.1).1
        rw [xp]; exact c
    · rw [x4] at y
      have c := b.2.2.2.2 y
      have y2 : 0 < j := by
        rcases Nat.eq_zero_or_pos j with z | z
        · have := rt.mp z; omega
        · exact z
      refine ⟨y2, ?_⟩
      have tt := hv.2.1 _ g.1
      rcases p with p | p
      · omega
      · have c2 := c.2
        rw [p.2.2.2.1] at c2
        rw [(R (T 2 j).toNat p.2.1).1]; exact c2
  · have g := G j hj
    obtain ⟨x1, x2, x3, x4, x5, x6, x7⟩ := R j hj
    rw [x4] at b
    have ot := hv.oth g.1 b
    have ne := hs _ g.1 b
    have Ko := zKe_sib hv g.1 ot.2.1 g.2.1 ot.2.2.1 (by omega)
    have lt := zcnt_lt ot.2.1 Ko
    have e5 : T 5 j = (zcnt (zKe S k) (S 5 (zkg (zKe S k) (zN S) j)).toNat : Int) := by rw [x5, if_neg (by omega)]
    have t5 : (T 5 j).toNat = zcnt (zKe S k) (S 5 (zkg (zKe S k) (zN S) j)).toNat := by omega
    have oo := of _ ot.2.1 Ko
    refine ⟨by omega, by omega, ?_, ?_⟩
    · rw [t5]
      have s := (sib _ j (show zcnt (zKe S k) (S 5 (zkg (zKe S k) (zN S) j)).toNat < zN T by omega) hj).mpr (by rw [oo]; exact ot.2.2.1)
      rw [s]; exact e2
    · dsimp only
      rw [t5, oo]; exact ot.2.2.2
  · rw [hT]; have := zcnt_le (zKe S k) (zN S); omega
end OPS4
