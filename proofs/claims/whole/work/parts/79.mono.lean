/-! A SHOW THAT HAS LESS LASTS NO LONGER -/
section MONO
variable {S T : zSt} {d r d' r' : Nat → Nat} {k : Nat} {ac si ac' si' : Nat → Int} {g : Nat → Nat}
theorem zsum_one {f : Nat → Int} {k : Nat} : ∀ n, zsum (fun j => decide (j = k)) f n = if k < n then f k else 0
  | 0 => by rw [if_neg (Nat.not_lt_zero _)]; rfl
  | n + 1 => by
    rw [zsum_s, zsum_one n]
    by_cases z : n = k
    · rw [if_pos (decide_eq_true z), if_neg (by omega), if_pos (by omega), z, Int.zero_add]
    · rw [if_neg (fun y => z (of_decide_eq_true y)), Int.add_zero]
      by_cases y : k < n
      · rw [if_pos y, if_pos (by omega)]
      · rw [if_neg y, if_neg (by omega)]
theorem zEn_sum (hv : zVal S d r) (q : Nat) : ∀ p : Nat, zEn S ac q p = zsum (fun j => decide (S 2 j = q ∧ S 3 j < (p : Int))) (zF S ac) (zN S)
  | 0 => by
    have e : zsum (fun j => decide (S 2 j = q ∧ S 3 j < ((0 : Nat) : Int))) (zF S ac) (zN S) = zsum (fun _ => false) (zF S ac) (zN S) := zsum_congr (fun j hj => decide_eq_false (fun y => by have := (hv.2.2.2.2.1 j hj).1; have := y.2; omega)) (fun j hj y => rfl)
    rw [e]
    have z : ∀ n, zsum (fun _ => false) (zF S ac) n = 0 := by
      intro n
      induction n with
      | zero => rfl
      | succ n ih => rw [zsum_s, ih]; rfl
    rw [z]; rfl
  | p + 1 => by
    have pg := hv.pg
    rw [zEn_s, zEn_sum hv q p]
    rcases zch_lt S q p with e | ⟨i, e, hi, i2, i3⟩
    · rw [if_pos e]
      refine zsum_congr (fun j hj => decide_eq_decide.mpr ?_) (fun j hj y => rfl)
      have ne : ¬ (S 2 j = q ∧ S 3 j = p) := fun y => by
        have c := (hv.2.2.2.2.1 j hj).2.2
        rw [y.1, y.2, e] at c
        omega
      push_cast
      constructor
      · intro y; exact ⟨y.1, by omega⟩
      · intro y; exact ⟨y.1, by omega⟩
    · rw [if_neg (by omega), e, Int.toNat_natCast]
      have A := zsum_add (p := fun j => decide (S 2 j = q ∧ S 3 j < (p : Int))) (q := fun j => decide (j = i)) (r := fun j => decide (S 2 j = q ∧ S 3 j < ((p + 1 : Nat) : Int))) (f := zF S ac) (n := zN S) (fun j hj => by
        by_cases z : j = i
        · have n1 : decide (S 2 i = q ∧ S 3 i < (p : Int)) = false := decide_eq_false (fun y => by have := y.2; omega)
          have n2 : decide (S 2 i = q ∧ S 3 i < ((p + 1 : Nat) : Int)) = true := decide_eq_true ⟨i2, by push_cast; omega⟩
          rw [z, n1, n2, decide_eq_true (rfl : i = i)]
          exact ⟨rfl, rfl⟩
        · rw [decide_eq_false z, Bool.or_false, Bool.and_false]
          refine ⟨decide_eq_decide.mpr ?_, rfl⟩
          push_cast
          constructor
          · intro y
            refine ⟨y.1, ?_⟩
            have ne : S 3 j ≠ p := fun w => z (pg.2 j i hj hi (by rw [y.1, i2]) (by rw [w, i3]))
            have := y.2
            omega
          · intro y; exact ⟨y.1, by omega⟩)
      rw [A, zsum_one, if_pos hi]
      unfold zF
      omega
theorem zEn_CS (hv : zVal S d r) (q : Nat) : zEn S ac q 12 = zCS S ac q := by
  rw [zEn_sum hv q 12]
  unfold zCS
  refine zsum_congr (fun j hj => decide_eq_decide.mpr ⟨fun y => y.1, fun y => ⟨y, (hv.2.2.2.2.1 j hj).2.1⟩⟩) (fun j hj y => rfl)
theorem zsum_len {p : Nat → Bool} {f : Nat → Int} {n : Nat} : ∀ m, (∀ j, j < n + m → p j = true → 0 ≤ f j) → zsum p f n ≤ zsum p f (n + m)
  | 0, _ => Int.le_refl _
  | m + 1, h => by
    have a := zsum_len (p := p) (f := f) (n := n) m (fun j hj => h j (by omega))
    have b : zsum p f (n + (m + 1)) = zsum p f (n + m) + (if p (n + m) = true then f (n + m) else 0) := zsum_s _ _ _
    have c : 0 ≤ (if p (n + m) = true then f (n + m) else 0) := by
      split
      · exact h _ (by omega) (by assumption)
      · exact Int.le_refl _
    omega
theorem zsum_emb {p p' : Nat → Bool} {f f' : Nat → Int} : ∀ n m, (∀ j, j < n → g j < m) → (∀ i j, i < j → j < n → g i < g j) → (∀ j, j < n → p j = true → p' (g j) = true ∧ f j ≤ f' (g j)) → (∀ j, j < m → p' j = true → 0 ≤ f' j) → zsum p f n ≤ zsum p' f' m
  | 0, m, _, _, _, h0 => by
    have := zsum_len (p := p') (f := f') (n := 0) m (fun j hj => h0 j (by omega))
    rw [Nat.zero_add] at this
    exact this
  | n + 1, m, h1, h2, h3, h0 => by
    have gm := h1 n (by omega)
    have a := zsum_emb (p := p) (p' := p') (f := f) (f' := f') n (g n) (fun j hj => h2 j n hj (by omega)) (fun i j hi hj => h2 i j hi (by omega)) (fun j hj => h3 j (by omega)) (fun j hj => h0 j (by omega))
    have b := zsum_len (p := p') (f := f') (n := g n + 1) (m - (g n + 1)) (fun j hj => h0 j (by omega))
    rw [show g n + 1 + (m - (g n + 1)) = m by omega, zsum_s] at b
    rw [zsum_s]
    by_cases e : p n = true
    · have c := h3 n (by omega) e
      rw [if_pos e]
      rw [if_pos c.1] at b
      omega
    · rw [if_neg e]
      have c : 0 ≤ (if p' (g n) = true then f' (g n) else 0) := by
        split
        · exact h0 _ gm (by assumption)
        · exact Int.le_refl _
      omega
def zSj (S : zSt) (x : Int) (k : Nat) : Int := if 0 < S 7 (9 * k) then S 7 (9 * k) else if S 1 k = 0 then 10 else x
theorem zSi_j (S : zSt) (ac : Nat → Int) (k : Nat) : zSi S ac k = zSj S (if S 1 k = 2 then zEn S ac k 12 else zMx S ac k (zN S)) k := rfl
/-- T lies in S by g, and each clip of T has no more than that of S -/
def zEmb (T S : zSt) (g : Nat → Nat) : Prop :=
  (∀ j, j < zN T → g j < zN S) ∧ (∀ i j, i < j → j < zN T → g i < g j) ∧
  (∀ j, j < zN T → T 1 j = S 1 (g j) ∧ T 4 j = S 4 (g j) ∧ T 6 j ≤ S 6 (g j) ∧ ((T 2 j = -1 ∧ S 2 (g j) = -1) ∨ (0 ≤ T 2 j ∧ S 2 (g j) = (g (T 2 j).toNat : Int))) ∧ (zby (T 4 j) = true → S 5 (g j) = (g (T 5 j).toNat : Int))) ∧
  (∀ j, j < zN T → ∀ x y : Int, 0 ≤ x → x ≤ y → zAc T (zSj T x j) j ≤ zAc S (zSj S y (g j)) (g j))
theorem zEmb.bs (h : zEmb T S g) (hv : zVal T d r) : ∀ f j, j < zN T → zBs S f (g j) = g (zBs T f j)
  | 0, _, _ => rfl
  | f + 1, j, hj => by
    have a := h.2.2.1 j hj
    rw [zBs_s, zBs_s, ← a.2.1]
    by_cases b : zby (T 4 j) = true
    · have o := hv.oth hj b
      rw [if_pos b, if_pos b, a.2.2.2.2 b, Int.toNat_natCast]
      exact h.bs hv f _ o.2.1
    · rw [if_neg b, if_neg b]
theorem zEmb.op (h : zEmb T S g) (hv : zVal T d r) {j : Nat} (hj : j < zN T) : zOp S (g j) = zOp T j := by
  unfold zOp
  rw [h.bs hv 12 j hj, ← (h.2.2.1 _ (zBs_in hv 12 j hj).1).2.1]
theorem zEmb.bw (h : zEmb T S g) (hv : zVal T d r) {q : Int} (hac : ∀ i, i < zN T → T 2 i = q → ac i ≤ ac' (g i)) : ∀ f j, j < zN T → T 2 j = q → zBw T ac f j ≤ zBw S ac' f (g j)
  | 0, _, _, _ => Int.le_refl _
  | f + 1, j, hj, hq => by
    have a := h.2.2.1 j hj
    rw [zBw_s, zBw_s, ← a.2.1]
    by_cases b : zby (T 4 j) = true
    · have o := hv.oth hj b
      have ih := h.bw hv hac f _ o.2.1 (by rw [o.2.2.1]; exact hq)
      have c := hac _ o.2.1 (by rw [o.2.2.1]; exact hq)
      rw [if_pos b, if_pos b, a.2.2.2.2 b, Int.toNat_natCast]
      have e6 := a.2.2.1
      by_cases z : T 4 j = 2
      · rw [if_pos z, if_pos z]; omega
      · rw [if_neg z, if_neg z]; omega
    · rw [if_neg b, if_neg b]; exact Int.le_refl _
theorem zEmb.bg (h : zEmb T S g) (hv : zVal T d r) {q : Int} (hac : ∀ i, i < zN T → T 2 i = q → ac i ≤ ac' (g i)) {j : Nat} (hj : j < zN T) (hq : T 2 j = q) : zBg T ac j ≤ zBg S ac' (g j) := by
  have a := h.bw hv hac 12 j hj hq
  have b := (h.2.2.1 _ (zBs_in hv 12 j hj).1).2.2.1
  unfold zBg
  rw [h.op hv hj, h.bs hv 12 j hj]
  split <;> omega
theorem zMx_ge (S : zSt) (ac : Nat → Int) (q : Nat) : ∀ i, 0 ≤ zMx S ac q i ∧ ∀ j, j < i → q < j → S 2 j = q → zOp S j = false → zBg S ac j + ac j ≤ zMx S ac q i
  | 0 => ⟨Int.le_refl _, fun j hj => absurd hj (Nat.not_lt_zero _)⟩
  | i + 1 => by
    obtain ⟨a, b⟩ := zMx_ge S ac q i
    rw [zMx_s]
    by_cases z : q < i ∧ S 2 i = q ∧ zOp S i = false
    · rw [if_pos z]
      refine ⟨by omega, fun j hj h1 h2 h3 => ?_⟩
      by_cases y : j = i
      · rw [y]; omega
      · have := b j (by omega) h1 h2 h3; omega
    · rw [if_neg z]
      refine ⟨a, fun j hj h1 h2 h3 => ?_⟩
      by_cases y : j = i
      · rw [y] at h1 h2 h3; exact absurd ⟨h1, h2, h3⟩ z
      · exact b j (by omega) h1 h2 h3
theorem zMx_le {B : Int} {q : Nat} (h0 : 0 ≤ B) : ∀ i, (∀ j, j < i → q < j → S 2 j = q → zOp S j = false → zBg S ac j + ac j ≤ B) → zMx S ac q i ≤ B
  | 0, _ => h0
  | i + 1, h => by
    have a := zMx_le h0 i (fun j hj => h j (by omega))
    rw [zMx_s]
    by_cases z : q < i ∧ S 2 i = q ∧ zOp S i = false
    · rw [if_pos z]; have := h i (by omega) z.1 z.2.1 z.2.2; omega
    · rw [if_neg z]; exact a
theorem zEmb_ac (h : zEmb T S g) (hT : zVal T d r) (hS : zVal S d' r') (lT : zLay T si ac) (lS : zLay S si' ac') : ∀ m j, j < zN T → zN T ≤ j + m → ac j ≤ ac' (g j)
  | 0, j, hj, hm => by omega
  | m + 1, j, hj, hm => by
    have up : ∀ i, i < zN T → T 2 i = (j : Int) → ac i ≤ ac' (g i) := fun i hi e => by
      have t := hT.2.1 i hi
      exact zEmb_ac h hT hS lT lS m i hi (by omega)
    have gj := h.1 j hj
    obtain ⟨a1, a2, a3, a4, a5⟩ := h.2.2.1 j hj
    obtain ⟨l1, l2⟩ := lT j hj
    obtain ⟨m1, m2⟩ := lS _ gj
    rw [l2, m2, l1, m1, zSi_j, zSi_j]
    have nS : ∀ i, i < zN S → 0 ≤ S 6 i ∧ 0 ≤ ac' i := fun i hi => ⟨(hS.2.2.1 i hi).1.2.2.2.2.1, (zLay_bound hS lS hi).2.1⟩
    have nT : ∀ i, i < zN T → 0 ≤ T 6 i ∧ 0 ≤ ac i := fun i hi => ⟨(hT.2.2.1 i hi).1.2.2.2.2.1, (zLay_bound hT lT hi).2.1⟩
    have kid : ∀ i, i < zN T → T 2 i = (j : Int) → S 2 (g i) = (g j : Int) := fun i hi e => by
      have c := (h.2.2.1 i hi).2.2.2.1
      rcases c with c | c
      · omega
      · have d := c.2
        rw [e, Int.toNat_natCast] at d
        exact d
    refine h.2.2.2 j hj _ _ ?_ ?_
    · split
      · rw [zEn_CS hT]
        unfold zCS
        exact zsum_nonneg (fun i hi _ => by have := nT i hi; unfold zF; omega)
      · exact (zMx_ge T ac j (zN T)).1
    · rw [← a1]
      split
      · rw [zEn_CS hT, zEn_CS hS]
        unfold zCS
        refine zsum_emb (g := g) (zN T) (zN S) h.1 h.2.1 (fun i hi e => ?_) (fun i hi _ => by have := nS i hi; unfold zF; omega)
        have e := of_decide_eq_true e
        have c := (h.2.2.1 i hi).2.2.1
        have u := up i hi e
        refine ⟨decide_eq_true (kid i hi e), ?_⟩
        unfold zF; omega
      · refine zMx_le (zMx_ge S ac' (g j) (zN S)).1 (zN T) (fun i hi ji e op => ?_)
        have u := up i hi e
        have b := h.bg hT (ac := ac) (ac' := ac') (q := (j : Int)) up hi e
        have c := (zMx_ge S ac' (g j) (zN S)).2 (g i) (h.1 i hi) (h.2.1 j i ji hi) (kid i hi e) (by rw [h.op hT hi]; exact op)
        omega
/-- the lesser one lasts no longer -/
theorem zEmb_last (h : zEmb T S g) (hT : zVt T) (hS : zVt S) (h0 : 0 ≤ T 0 0 ∧ 0 ≤ S 0 0) (g0 : 0 < zN T → g 0 = 0) (hl : 0 ≤ zlast S) : zlast T ≤ zlast S := by
  have lT := hT.lay
  have lS := hS.lay
  obtain ⟨⟨d, r, vT⟩, -⟩ := hT
  obtain ⟨⟨d', r', vS⟩, -⟩ := hS
  by_cases z : T 0 0 = 0
  · have e : zlast T = 0 := by unfold zlast; rw [if_pos z]
    rw [e]; exact hl
  · have hz : zN T = (T 0 0).toNat := rfl
    have hz2 : zN S = (S 0 0).toNat := rfl
    have a := zEmb_ac h vT vS lT lS (zN T) 0 (by omega) (by omega)
    have b := (h.2.2.1 0 (by omega)).2.2.1
    have c := h.1 0 (by omega)
    rw [g0 (by omega)] at a b c
    unfold zlast
    rw [if_neg z, if_neg (by omega)]
    omega
end MONO
