section OPS5
variable {S T : zSt} {d r : Nat → Nat} {k : Nat}
theorem zAcW_up (hm : zMk S k) {x y : Int} (h : x ≤ y) : zAcW S x k ≤ zAcW S y k := by
  unfold zAcW
  have a : x * S 7 (9 * k + 2) ≤ y * S 7 (9 * k + 2) := Int.mul_le_mul_of_nonneg_right h (by have := hm.2.2.1; omega)
  exact Int.ediv_le_ediv (by have := hm.2.1; omega) (by omega)
theorem zCut_up {c x y : Int} (h : x ≤ y) : (if 0 < c ∧ c < x then c else x) ≤ (if 0 < c ∧ c < y then c else y) := by
  split <;> split <;> omega
theorem zAc_up (hm : zMk S k) {x y : Int} (h : x ≤ y) : zAc S x k ≤ zAc S y k := zCut_up (zAcW_up hm h)
theorem zSj_up {x y : Int} (h : x ≤ y) : zSj S x k ≤ zSj S y k := by
  unfold zSj
  split
  · exact Int.le_refl _
  · split
    · exact Int.le_refl _
    · exact h
theorem zSj_0 {x : Int} (h : 0 ≤ x) : 0 ≤ zSj S x k := by
  unfold zSj
  split
  · omega
  · split <;> omega
/-! lose -/
theorem zLos_emb (hv : zVal S d r) (hk : k < zN S) (hs : ∀ i, i < zN S → zby (S 4 i) = true → S 5 i ≠ (k : Int)) (h : zLos S T k) : zEmb T S (zkg (zKe S k) (zN S)) := by
  obtain ⟨⟨n0, -⟩, h1, -⟩ := h
  have hT : zN T = zcnt (zKe S k) (zN S) := by unfold zN; rw [n0]; exact Int.toNat_natCast _
  have G := fun (j : Nat) (hj : j < zN T) => zkg_in (K := zKe S k) (N := zN S) (j := j) (by rw [← hT]; exact hj)
  have R := fun (j : Nat) (hj : j < zN T) => by
    have x := h1 _ (G j hj).1 (G j hj).2.1
    rw [(G j hj).2.2] at x
    exact x
  have of := fun (i : Nat) (hi : i < zN S) (hK : zKe S k i = true) => zkg_of (K := zKe S k) (N := zN S) hi hK
  refine ⟨fun j hj => (G j hj).1, fun i j hij hj => zkg_lt hij (by rw [← hT]; exact hj), fun j hj => ?_, fun j hj x y hx hxy => ?_⟩
  · obtain ⟨x1, x2, x3, x4, x5, x6, x7⟩ := R j hj
    have g := G j hj
    have t := hv.2.1 _ g.1
    refine ⟨x1, x4, by rw [x6]; exact Int.le_refl _, ?_, fun b => ?_⟩
    · by_cases z : S 2 (zkg (zKe S k) (zN S) j) = -1
      · rw [if_pos z] at x2; exact Or.inl ⟨x2, z⟩
      · rw [if_neg z] at x2
        have Kp := (zKe_up hv g.1 g.2.1).2 z
        refine Or.inr ⟨by omega, ?_⟩
        rw [x2, Int.toNat_natCast, of _ (by omega) Kp]; omega
    · rw [x4] at b
      have ot := hv.oth g.1 b
      have ne := hs _ g.1 b
      have Ko := zKe_sib hv g.1 ot.2.1 g.2.1 ot.2.2.1 (by omega)
      rw [x5, if_neg (by omega), Int.toNat_natCast, of _ ot.2.1 Ko]; omega
  · obtain ⟨x1, x2, x3, x4, x5, x6, x7⟩ := R j hj
    have g := G j hj
    have m0 := x7 0 (by decide)
    rw [Nat.add_zero, Nat.add_zero] at m0
    have e1 : ∀ z, zAc T z j = zAc S z (zkg (zKe S k) (zN S) j) := fun z => by unfold zAc zAcW; rw [x7 1 (by decide), x7 2 (by decide), x7 3 (by decide)]
    have e2 : zSj T x j = zSj S x (zkg (zKe S k) (zN S) j) := by unfold zSj; rw [m0, x1]
    rw [e1, e2]
    exact zAc_up (hv.2.2.1 _ g.1).1 (zSj_up hxy)
theorem zLos_fin (hF : zFin S) (hk : k < zN S) (h0 : k = 0 → zN S = 1) (hs : ∀ i, i < zN S → zby (S 4 i) = true → S 5 i ≠ (k : Int)) (hL : zDrop S T 0 k) : zFin T ∧ zLos S T k ∧ zlast T ≤ zlast S := by
  have lr := hF.lr
  obtain ⟨⟨g1, g2, g3, g4⟩, ⟨⟨d, r, hv⟩, t⟩, hl⟩ := hF
  have v1 := hv.1.1
  have hz : zN S = (S 0 0).toNat := rfl
  have h := zDrop_los hv (fun i hi => (g2 i (by omega)).2.2.2.2.1.1) hL
  have V := zLos_val hv hk h0 hs h
  have E := zLos_emb hv hk hs h
  have hT : zN T = zcnt (zKe S k) (zN S) := by unfold zN; rw [h.1.1]; exact Int.toNat_natCast _
  have cl := zcnt_le (zKe S k) (zN S)
  have t0 := h.1.1
  have t8 := h.1.2
  obtain ⟨d1, d2, d3, d4⟩ := id hL
  have r8 : T 8 = S 8 := d4 8 (by omega)
  have r9 : T 9 = S 9 := d4 9 (by omega)
  have vt : zVt T := ⟨⟨_, _, V⟩, by rw [t8, r9]; exact t⟩
  -- any number that T has, some clip of S has
  have from' : ∀ j, j < 12 → ∃ i, i < 12 ∧ T 1 j = S 1 i ∧ (-1 ≤ T 2 j ∧ T 2 j ≤ 11) ∧ (0 ≤ T 3 j ∧ T 3 j ≤ 12) ∧ T 4 j = S 4 i ∧ (-1 ≤ T 5 j ∧ T 5 j ≤ 11) ∧ T 6 j = S 6 i ∧ ∀ u, u < 9 → T 7 (9 * j + u) = S 7 (9 * i + u) := fun j hj => by
    have pl : ∀ i, i < 12 → i < zN S → 0 ≤ zpl S 0 k i ∧ zpl S 0 k i ≤ 12 := fun i hi hiN => by
      have a := (g2 i hi).2.2.1
      have b := hv.pg.1 k hk
      simp only [Nat.zero_add] at a
      unfold zpl
      simp only [Nat.zero_add]
      split <;> omega
    by_cases z : j < zN T
    · have g := zkg_in (K := zKe S k) (N := zN S) (j := j) (by rw [← hT]; exact z)
      have x := h.2.1 _ g.1 g.2.1
      rw [g.2.2] at x
      obtain ⟨x1, x2, x3, x4, x5, x6, x7⟩ := x
      have p := pl _ (by omega) g.1
      have c2 := zcnt_le (zKe S k) (S 2 (zkg (zKe S k) (zN S) j)).toNat
      have c5 := zcnt_le (zKe S k) (S 5 (zkg (zKe S k) (zN S) j)).toNat
      have b := g2 _ (show zkg (zKe S k) (zN S) j < 12 by omega)
      simp only [Nat.zero_add] at b
      refine ⟨zkg (zKe S k) (zN S) j, by omega, x1, ?_, by rw [x3]; exact p, x4, ?_, x6, x7⟩
      · rw [x2]; split <;> omega
      · rw [x5]; split <;> omega
    · have e := d2 j (by show zcnt (zKe S k) (zN S) ≤ j; omega)
      simp only [Nat.zero_add] at e
      obtain ⟨e1, e2, e3, e4, e5, e6, e7⟩ := e
      have b := g2 j hj
      simp only [Nat.zero_add] at b
      refine ⟨j, hj, e1, by rw [e2]; exact b.2.1, ?_, e4, by rw [e5]; exact b.2.2.2.2.1, e6, e7⟩
      rw [e3]
      split
      · exact pl j hj (by assumption)
      · exact b.2.2.1
  have lT : zlast T ≤ zlast S := by
    refine zEmb_last E vt ⟨⟨d, r, hv⟩, t⟩ ⟨by omega, g1.1⟩ (fun y => ?_) lr.1
    have N0 : 0 < zN S := by omega
    have k0 : k ≠ 0 := fun z => by
      have e1 := h0 z
      have g := zkg_in (K := zKe S k) (N := zN S) (j := 0) (by rw [← hT]; exact y)
      have u := (zKe_up hv g.1 g.2.1).1
      omega
    exact zkg_of N0 (zKe_0 hv N0 k0)
  refine ⟨⟨⟨by omega, fun j hj => ?_, fun j hj => ?_, by rw [r8, r9]; exact g4⟩, vt, fun j hj => ?_⟩, h, lT⟩
  · obtain ⟨i, hi, e1, e2, e3, e4, e5, e6, -⟩ := from' j hj
    have b := g2 i hi
    simp only [Nat.zero_add] at b ⊢
    rw [e1, e4, e6]
    exact ⟨b.1, e2, e3, b.2.2.2.1, e5, b.2.2.2.2.2⟩
  · show 0 ≤ T 7 j ∧ T 7 j ≤ 999
    obtain ⟨i, hi, -, -, -, -, -, -, e7⟩ := from' (j / 9) (by omega)
    have e := e7 (j % 9) (by omega)
    rw [show 9 * (j / 9) + j % 9 = j by omega] at e
    rw [e]
    exact g3 _ (by omega)
  · have g := zkg_in (K := zKe S k) (N := zN S) (j := j) (by rw [← hT]; exact hj)
    have x := h.2.1 _ g.1 g.2.1
    rw [g.2.2] at x
    obtain ⟨x1, x2, x3, x4, x5, x6, x7⟩ := x
    have b := hl _ g.1
    refine ⟨by rw [x7 6 (by decide)]; exact b.1, fun y => ?_⟩
    rw [x4] at y
    rw [x5, if_pos (b.2 y)]
/-! more of one mark, or a later start -/
theorem zEmb_id (h0 : T 0 0 = S 0 0) (h1 : T 1 = S 1) (h2 : T 2 = S 2) (h4 : T 4 = S 4) (h5 : T 5 = S 5) (hv : zVal S d r) (h6 : ∀ j, j < zN S → T 6 j ≤ S 6 j) (hl : ∀ j, j < zN S → ∀ x y : Int, 0 ≤ x → x ≤ y → zAc T (zSj T x j) j ≤ zAc S (zSj S y j) j) : zEmb T S (fun j => j) := by
  have n0 : zN T = zN S := zN_cg h0
  refine ⟨fun j hj => by rw [← n0]; exact hj, fun i j hij _ => hij, fun j hj => ?_, fun j hj => hl j (by omega)⟩
  rw [n0] at hj
  rw [h1, h2, h4, h5]
  have t := hv.2.1 j hj
  refine ⟨rfl, rfl, h6 j hj, ?_, fun b => ?_⟩
  · by_cases z : S 2 j = -1
    · exact Or.inl ⟨z, z⟩
    · refine Or.inr ⟨by omega, ?_⟩
      show S 2 j = (((S 2 j).toNat : Nat) : Int)
      omega
  · have := (hv.oth hj b).1
    show S 5 j = (((S 5 j).toNat : Nat) : Int)
    omega
theorem zOpM_up (hF : zFin S) {c w : Nat} {v v' : Int} (hc : c < zN S) (hw : w = 0 ∨ w = 2) (h1 : 1 ≤ v) (hvv : v ≤ v') (hr : zmr w v) (hr' : zmr w v') : zlast (zOpM S c w v) ≤ zlast (zOpM S c w v') := by
  have F := zOpM_fin hF hc (by omega) hr
  have F' := zOpM_fin hF hc (by omega) hr'
  have o : ∀ v r, r ≠ 7 → zOpM S c w v r = S r := fun v r hr => zs_other hr
  have q := fun (v : Int) (k u : Nat) (hu : u < 9) => zOpM_7 S c w v (k := k) (by omega) hu
  have n0 : ∀ v, zN (zOpM S c w v) = zN S := fun v => by unfold zN; rw [o v 0 (by decide)]
  obtain ⟨⟨d, r, V'⟩, t⟩ := F'.2.1
  refine zEmb_last (zEmb_id (by rw [o v 0 (by decide), o v' 0 (by decide)]) (by rw [o v 1 (by decide), o v' 1 (by decide)]) (by rw [o v 2 (by decide), o v' 2 (by decide)]) (by rw [o v 4 (by decide), o v' 4 (by decide)]) (by rw [o v 5 (by decide), o v' 5 (by decide)]) V' (fun j _ => by rw [o v 6 (by decide), o v' 6 (by decide)]; exact Int.le_refl _) (fun j hj x y hx hxy => ?_)) F.2.1 F'.2.1 ⟨F.1.1.1, F'.1.1.1⟩ (fun _ => rfl) F'.lr.1
  rw [n0] at hj
  have m := (V'.2.2.1 j (by rw [n0]; exact hj)).1
  have q0 := q v j 0 (by decide)
  have p0 := q v' j 0 (by decide)
  rw [Nat.add_zero] at q0 p0
  by_cases z : j = c
  · rcases hw with hw | hw
    · subst hw
      rw [if_pos (⟨z, rfl⟩ : j = c ∧ 0 = 0)] at q0 p0
      have e0 : zSj (zOpM S c 0 v) x j = v := by unfold zSj; rw [q0, if_pos (by omega)]
      have e1 : zSj (zOpM S c 0 v') y j = v' := by unfold zSj; rw [p0, if_pos (by omega)]
      have eq : ∀ u, u < 9 → u ≠ 0 → zOpM S c 0 v 7 (9 * j + u) = zOpM S c 0 v' 7 (9 * j + u) := fun u hu h0 => by rw [q v j u hu, q v' j u hu, if_neg (fun y => h0 y.2), if_neg (fun y => h0 y.2)]
      have e2 : zAc (zOpM S c 0 v) v j = zAc (zOpM S c 0 v') v j := by
        unfold zAc zAcW
        rw [eq 1 (by decide) (by decide), eq 2 (by decide) (by decide), eq 3 (by decide) (by decide)]
      rw [e0, e1, e2]
      exact zAc_up m hvv
    · subst hw
      have s : zSj (zOpM S c 2 v) x j ≤ zSj (zOpM S c 2 v') y j := by
        unfold zSj
        rw [q0, p0, if_neg (show ¬ (j = c ∧ 0 = 2) by omega), if_neg (show ¬ (j = c ∧ 0 = 2) by omega), o v 1 (by decide), o v' 1 (by decide)]
        split
        · exact Int.le_refl _
        · split
          · exact Int.le_refl _
          · exact hxy
      have s0 : 0 ≤ zSj (zOpM S c 2 v) x j := zSj_0 hx
      have k1 : zOpM S c 2 v 7 (9 * j + 1) = zOpM S c 2 v' 7 (9 * j + 1) := by rw [q v j 1 (by decide), q v' j 1 (by decide), if_neg (by omega), if_neg (by omega)]
      have k3 : zOpM S c 2 v 7 (9 * j + 3) = zOpM S c 2 v' 7 (9 * j + 3) := by rw [q v j 3 (by decide), q v' j 3 (by decide), if_neg (by omega), if_neg (by omega)]
      have k2 : zOpM S c 2 v 7 (9 * j + 2) = v := by rw [q v j 2 (by decide), if_pos ⟨z, rfl⟩]
      have k2' : zOpM S c 2 v' 7 (9 * j + 2) = v' := by rw [q v' j 2 (by decide), if_pos ⟨z, rfl⟩]
      have w1 : zAcW (zOpM S c 2 v) (zSj (zOpM S c 2 v) x j) j ≤ zAcW (zOpM S c 2 v') (zSj (zOpM S c 2 v') y j) j := by
        unfold zAcW
        rw [k1, k2, k2']
        have a1 : zSj (zOpM S c 2 v) x j * v ≤ zSj (zOpM S c 2 v') y j * v := Int.mul_le_mul_of_nonneg_right s (by omega)
        have a2 : zSj (zOpM S c 2 v') y j * v ≤ zSj (zOpM S c 2 v') y j * v' := Int.mul_le_mul_of_nonneg_left hvv (by omega)
        exact Int.ediv_le_ediv (by have := m.2.1; omega) (by omega)
      unfold zAc
      rw [k3]
      exact zCut_up w1
  · have e : ∀ u, u < 9 → zOpM S c w v 7 (9 * j + u) = zOpM S c w v' 7 (9 * j + u) := fun u hu => by rw [q v j u hu, q v' j u hu, if_neg (by omega), if_neg (by omega)]
    have e0 := e 0 (by decide)
    rw [Nat.add_zero] at e0
    have e1 : ∀ z, zAc (zOpM S c w v) z j = zAc (zOpM S c w v') z j := fun z => by unfold zAc zAcW; rw [e 1 (by decide), e 2 (by decide), e 3 (by decide)]
    have e2 : zSj (zOpM S c w v) x j = zSj (zOpM S c w v') x j := by unfold zSj; rw [e0, o v 1 (by decide), o v' 1 (by decide)]
    rw [e1, e2]
    exact zAc_up m (zSj_up hxy)
def zOp6 (S : zSt) (c : Nat) (v : Int) : zSt := zs S 6 c v
theorem zOp6_fin (hF : zFin S) {c : Nat} {v : Int} (hv : 0 ≤ v ∧ v ≤ 999) : zFin (zOp6 S c v) := by
  have o : ∀ r, r ≠ 6 → zOp6 S c v r = S r := fun r hr => zs_other hr
  have e6 : zOp6 S c v 6 = zu (S 6) c v := zs_row _ _ _ _
  have n0 : zOp6 S c v 0 0 = S 0 0 := by rw [o 0 (by decide)]
  obtain ⟨⟨g1, g2, g3, g4⟩, ⟨⟨d, r, hv'⟩, t⟩, hl⟩ := hF
  refine ⟨⟨by rw [o 0 (by decide)]; exact g1, fun k hk => ?_, ?_, ?_⟩, ⟨⟨d, r, zVal_cg hv' n0 (fun r _ _ => o r (by omega)) (fun k hk => ?_)⟩, ?_⟩, ?_⟩
  · have b := g2 k hk
    simp only [Nat.zero_add] at b ⊢
    rw [o 1 (by decide), o 2 (by decide), o 3 (by decide), o 4 (by decide), o 5 (by decide), e6]
    refine ⟨b.1, b.2.1, b.2.2.1, b.2.2.2.1, b.2.2.2.2.1, ?_⟩
    unfold zu
    split
    · exact hv
    · exact b.2.2.2.2.2
  · intro k hk; rw [o _ (by decide)]; exact g3 k hk
  · intro i hi; rw [o _ (by decide), o _ (by decide)]; exact g4 i hi
  · have b := (hv'.2.2.1 k hk).1
    unfold zMk at *
    rw [o 7 (by decide), e6]
    refine ⟨b.1, b.2.1, b.2.2.1, b.2.2.2.1, ?_⟩
    unfold zu
    split
    · exact hv
    · exact b.2.2.2.2
  · rw [o 0 (by decide), o 9 (by decide)]; exact t
  · rw [zN_cg n0, o 7 (by decide), o 4 (by decide), o 5 (by decide)]; exact hl
theorem zOp6_up (hF : zFin S) {c : Nat} {v v' : Int} (hvv : v ≤ v') (hr : 0 ≤ v ∧ v' ≤ 999) : zlast (zOp6 S c v) ≤ zlast (zOp6 S c v') := by
  have F := zOp6_fin hF (c := c) (v := v) (by omega)
  have F' := zOp6_fin hF (c := c) (v := v') (by omega)
  have o : ∀ v r, r ≠ 6 → zOp6 S c v r = S r := fun v r hr => zs_other hr
  have e6 : ∀ v, zOp6 S c v 6 = zu (S 6) c v := fun v => zs_row _ _ _ _
  obtain ⟨⟨d, r, V'⟩, t⟩ := F'.2.1
  refine zEmb_last (zEmb_id (by rw [o v 0 (by decide), o v' 0 (by decide)]) (by rw [o v 1 (by decide), o v' 1 (by decide)]) (by rw [o v 2 (by decide), o v' 2 (by decide)]) (by rw [o v 4 (by decide), o v' 4 (by decide)]) (by rw [o v 5 (by decide), o v' 5 (by decide)]) V' (fun j _ => ?_) (fun j hj x y hx hxy => ?_)) F.2.1 F'.2.1 ⟨F.1.1.1, F'.1.1.1⟩ (fun _ => rfl) F'.lr.1
  · rw [e6, e6]
    unfold zu
    split
    · exact hvv
    · exact Int.le_refl _
  · have m := (V'.2.2.1 j hj).1
    have e1 : ∀ z, zAc (zOp6 S c v) z j = zAc (zOp6 S c v') z j := fun z => by unfold zAc zAcW; rw [o v 7 (by decide), o v' 7 (by decide)]
    have e2 : zSj (zOp6 S c v) x j = zSj (zOp6 S c v') x j := by unfold zSj; rw [o v 7 (by decide), o v' 7 (by decide), o v 1 (by decide), o v' 1 (by decide)]
    rw [e1, e2]
    exact zAc_up m (zSj_up hxy)
end OPS5
