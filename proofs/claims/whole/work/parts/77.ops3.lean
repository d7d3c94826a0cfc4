section OPS3
variable {S T : zSt} {d r : Nat → Nat} {k : Nat}
/-! a clip more -/
theorem zVal.d0 (hv : zVal S d r) : ∀ n k, k < n → k < zN S → d 0 ≤ d k
  | 0, _, h, _ => absurd h (Nat.not_lt_zero _)
  | n + 1, k, h, hk => by
    have t := hv.2.1 k hk
    by_cases z : k = 0
    · rw [z]; exact Nat.le_refl _
    · have a := hv.d0 n (S 2 k).toNat (by omega) (by omega)
      have b := (hv.1.2 (S 2 k).toNat (by omega)).2 k hk (by omega)
      omega
theorem zdep_d (hv : zVal S d r) : ∀ f (y : Nat), y < zN S → y < f → zdep (S 2) f (y : Int) + d 0 = d y + 1
  | 0, _, _, h => absurd h (Nat.not_lt_zero _)
  | f + 1, y, hy, hf => by
    have t := hv.2.1 y hy
    have st : zdep (S 2) (f + 1) (y : Int) = if (y : Int) = -1 then 0 else zdep (S 2) f (S 2 y) + 1 := rfl
    rw [st, if_neg (by omega)]
    by_cases z : y = 0
    · have e : S 2 y = -1 := by omega
      rw [e]
      have z0 : zdep (S 2) f (-1) = 0 := by cases f with
        | zero => rfl
        | succ f => show (if (-1 : Int) = -1 then 0 else zdep (S 2) f (S 2 (-1 : Int).toNat) + 1) = 0; rw [if_pos rfl]
      rw [z0, z]; omega
    · have a := zdep_d hv f (S 2 y).toNat (by omega) (by omega)
      have b := (hv.1.2 (S 2 y).toNat (by omega)).2 y hy (by omega)
      rw [show (((S 2 y).toNat : Nat) : Int) = S 2 y by omega] at a
      omega
theorem zApp_r (S : zSt) (x y p : Int) : zApp S 0 x y p 0 = zu (S 0) 0 (S 0 0 + 1) ∧ zApp S 0 x y p 1 = zu (S 1) (zN S) x ∧ zApp S 0 x y p 2 = zu (S 2) (zN S) y ∧ zApp S 0 x y p 3 = zu (S 3) (zN S) p ∧ zApp S 0 x y p 4 = zu (S 4) (zN S) 0 ∧ zApp S 0 x y p 5 = zu (S 5) (zN S) (-1) ∧ zApp S 0 x y p 6 = zu (S 6) (zN S) 0 ∧ zApp S 0 x y p 7 = zmk (S 7) (zN S) 9 ∧ ∀ q, 8 ≤ q → zApp S 0 x y p q = S q := by
  unfold zApp zN
  simp only [Nat.zero_add]
  refine ⟨?_, ?_, ?_, ?_, ?_, ?_, ?_, ?_, fun q hq => ?_⟩
  · rw [zrow_ne (by decide), zs_other (by decide), zs_other (by decide), zs_other (by decide), zs_other (by decide), zs_other (by decide), zs_other (by decide), zs_row]
  · rw [zrow_ne (by decide), zs_other (by decide), zs_other (by decide), zs_other (by decide), zs_other (by decide), zs_other (by decide), zs_row, zs_other (by decide)]
  · rw [zrow_ne (by decide), zs_other (by decide), zs_other (by decide), zs_other (by decide), zs_other (by decide), zs_row, zs_other (by decide), zs_other (by decide)]
  · rw [zrow_ne (by decide), zs_other (by decide), zs_other (by decide), zs_other (by decide), zs_row, zs_other (by decide), zs_other (by decide), zs_other (by decide)]
  · rw [zrow_ne (by decide), zs_other (by decide), zs_other (by decide), zs_row, zs_other (by decide), zs_other (by decide), zs_other (by decide), zs_other (by decide)]
  · rw [zrow_ne (by decide), zs_other (by decide), zs_row, zs_other (by decide), zs_other (by decide), zs_other (by decide), zs_other (by decide), zs_other (by decide)]
  · rw [zrow_ne (by decide), zs_row, zs_other (by decide), zs_other (by decide), zs_other (by decide), zs_other (by decide), zs_other (by decide), zs_other (by decide)]
  · rw [zrow_eq]
  · rw [zrow_ne (by omega), zs_other (by omega), zs_other (by omega), zs_other (by omega), zs_other (by omega), zs_other (by omega), zs_other (by omega), zs_other (by omega)]
theorem zmk_k (f : Nat → Int) (N k u : Nat) (hu : u < 9) : zmk f N 9 (9 * k + u) = if k = N then zTab 0 u else f (9 * k + u) := by
  unfold zmk
  by_cases z : k = N
  · subst z
    rw [if_pos rfl, if_pos ⟨by omega, by omega⟩, show 9 * k + u - 9 * k = u by omega]
  · rw [if_neg z, if_neg (by omega)]
theorem zApp_fin (hF : zFin S) {x y : Int} (hN : zN S < 12) (hx : 0 ≤ x ∧ x ≤ 2) (h0 : zN S = 0 → y = -1) (h1 : 0 < zN S → 0 ≤ y ∧ y.toNat < zN S ∧ S 1 y.toNat ≠ 0) (hd : zdep (S 2) 12 y ≤ 4) : zFin (zApp S 0 x y (if y = -1 then 0 else (zcnt (fun j => decide (S 2 j = y)) (zN S) : Int))) := by
  obtain ⟨p, ep⟩ : ∃ p : Int, p = (if y = -1 then 0 else (zcnt (fun j => decide (S 2 j = y)) (zN S) : Int)) := ⟨_, rfl⟩
  rw [← ep]
  obtain ⟨a0, a1, a2, a3, a4, a5, a6, a7, a8⟩ := zApp_r S x y p
  obtain ⟨⟨g1, g2, g3, g4⟩, ⟨⟨d, r, hv⟩, t⟩, hl⟩ := hF
  have hz : zN S = (S 0 0).toNat := rfl
  have n0 : zN (zApp S 0 x y p) = zN S + 1 := by unfold zN; rw [a0, zu_eq]; omega
  have cl := zcnt_le (fun j => decide (S 2 j = y)) (zN S)
  have pg := hv.pg
  have y11 : -1 ≤ y ∧ y ≤ 11 := by
    by_cases z : zN S = 0
    · have := h0 z; omega
    · have := h1 (by omega); omega
  have ym : y = -1 → zN S = 0 := fun e => by
    by_cases z : zN S = 0
    · exact z
    · have := h1 (by omega); omega
  have p12 : 0 ≤ p ∧ p ≤ 12 := by rw [ep]; split <;> omega
  have c2 : ∀ q : Int, zcnt (fun j => decide (zApp S 0 x y p 2 j = q)) (zN S + 1) = zcnt (fun j => decide (S 2 j = q)) (zN S) + (if y = q then 1 else 0) := fun q => by
    have e : zcnt (fun j => decide (zApp S 0 x y p 2 j = q)) (zN S) = zcnt (fun j => decide (S 2 j = q)) (zN S) := zcnt_congr (fun j hj => by rw [a2, zu_ne (by omega)])
    by_cases z : y = q
    · rw [if_pos z, zcnt_t (by rw [a2, zu_eq]; exact decide_eq_true z), e]
    · rw [if_neg z, zcnt_f (by rw [a2, zu_eq]; exact decide_eq_false z), e]; rfl
  have PG' : zPg (zApp S 0 x y p) := by
    unfold zPg
    rw [n0]
    refine ⟨fun k hk => ?_, fun j k hj hk h2 h3 => ?_⟩
    · rw [c2, a3, a2]
      by_cases z : k = zN S
      · rw [z, zu_eq, zu_eq, if_pos rfl]
        refine ⟨p12.1, ?_⟩
        rw [ep]
        by_cases z1 : y = -1
        · rw [if_pos z1]; push_cast; omega
        · rw [if_neg z1]; push_cast; omega
      · rw [zu_ne z, zu_ne z]
        have b := pg.1 k (by omega)
        push_cast
        refine ⟨b.1, ?_⟩
        split <;> omega
    · rw [a2] at h2
      rw [a3] at h3
      by_cases zj : j = zN S
      · by_cases zk : k = zN S
        · omega
        · exfalso
          rw [zj, zu_eq, zu_ne zk] at h2 h3
          have b := pg.1 k (by omega)
          rw [← h2] at b
          rw [if_neg (fun e => by have := ym e; omega)] at ep
          omega
      · by_cases zk : k = zN S
        · exfalso
          rw [zk, zu_eq, zu_ne zj] at h2 h3
          have b := pg.1 j (by omega)
          rw [h2] at b
          rw [if_neg (fun e => by have := ym e; omega)] at ep
          omega
        · rw [zu_ne zj, zu_ne zk] at h2 h3
          exact pg.2 j k (by omega) (by omega) h2 h3
  have mk : ∀ k u, u < 9 → zApp S 0 x y p 7 (9 * k + u) = if k = zN S then zTab 0 u else S 7 (9 * k + u) := fun k u hu => by rw [a7]; exact zmk_k _ _ _ _ hu
  have V : zVal (zApp S 0 x y p) (fun j => if j = zN S then zdep (S 2) 12 y else d j - d 0) r := by
    have hv' := hv
    obtain ⟨⟨v1, v2⟩, v3, v4, v5, -⟩ := hv'
    refine ⟨⟨by rw [n0]; omega, ?_⟩, ?_, ?_, ?_, PG'.pl (by rw [n0]; omega)⟩
    · unfold zDp
      rw [n0]
      intro k hk
      by_cases z : k = zN S
      · dsimp only
        rw [if_pos z]
        refine ⟨hd, fun j hj e2 => ?_⟩
        exfalso
        rw [a2] at e2
        by_cases zj : j = zN S
        · rw [zj, zu_eq] at e2
          by_cases z0 : zN S = 0
          · have := h0 z0; omega
          · have := h1 (by omega); omega
        · rw [zu_ne zj] at e2
          have := v3 j (by omega)
          omega
      · dsimp only
        rw [if_neg z]
        have dk := v2 k (by omega)
        have d0 := hv.d0 (k + 1) k (by omega) (by omega)
        refine ⟨by omega, fun j hj e2 => ?_⟩
        rw [a2] at e2
        by_cases zj : j = zN S
        · rw [if_pos zj]
          rw [zj, zu_eq] at e2
          have := zdep_d hv 12 k (by omega) (by omega)
          rw [e2]
          omega
        · rw [if_neg zj]
          rw [zu_ne zj] at e2
          have := dk.2 j (by omega) e2
          omega
    · rw [n0]
      intro k hk
      rw [a2]
      by_cases z : k = zN S
      · rw [z, zu_eq]
        by_cases z0 : zN S = 0
        · have := h0 z0; omega
        · have := h1 (by omega); omega
      · rw [zu_ne z]; exact v3 k (by omega)
    · rw [n0]
      intro k hk
      have m0 := mk k 0 (by decide)
      have m1 := mk k 1 (by decide)
      have m2 := mk k 2 (by decide)
      have m3 := mk k 3 (by decide)
      rw [Nat.add_zero] at m0
      unfold zMk
      rw [m0, m1, m2, m3, a6, a1, a2, a4]
      by_cases z : k = zN S
      · rw [if_pos z, if_pos z, if_pos z, if_pos z, z, zu_eq, zu_eq, zu_eq, zu_eq]
        refine ⟨⟨by decide, by decide, by decide, by decide, by decide⟩, hx, by decide, fun y0 => ?_, fun y0 => absurd rfl y0⟩
        have h := h1 y0
        rw [zu_ne (by omega)]; exact h.2.2
      · rw [if_neg z, if_neg z, if_neg z, if_neg z, zu_ne z, zu_ne z, zu_ne z, zu_ne z]
        have b := v4 k (by omega)
        have tr := v3 k (by omega)
        refine ⟨b.1, b.2.1, b.2.2.1, fun y0 => ?_, fun y0 => ?_⟩
        · rw [zu_ne (by omega)]; exact b.2.2.2.1 y0
        · have c := b.2.2.2.2 y0
          rw [zu_ne (by omega)]; exact c
    · rw [n0]
      intro q hq
      unfold zPar
      rw [n0]
      intro j hj e2 b
      rw [a2] at e2 ⊢
      rw [a4] at b
      rw [a5]
      by_cases z : j = zN S
      · rw [z, zu_eq] at b; exact absurd b (by decide)
      · rw [zu_ne z] at e2 b ⊢
        have ot := hv.oth (by omega) b
        have := v3 j (by omega)
        refine ⟨ot.1, by omega, ?_, ot.2.2.2⟩
        rw [zu_ne (by omega), ot.2.2.1]; exact e2
  refine ⟨⟨by rw [a0, zu_eq, zu_ne (by decide)]; omega, fun k hk => ?_, fun j hj => ?_, ?_⟩, ⟨⟨_, r, V⟩, ?_⟩, fun k hk => ?_⟩
  · have b := g2 k hk
    simp only [Nat.zero_add] at b ⊢
    rw [a1, a2, a3, a4, a5, a6]
    by_cases z : k = zN S
    · rw [z, zu_eq, zu_eq, zu_eq, zu_eq, zu_eq, zu_eq]; omega
    · rw [zu_ne z, zu_ne z, zu_ne z, zu_ne z, zu_ne z, zu_ne z]; exact b
  · show 0 ≤ zApp S 0 x y p 7 j ∧ zApp S 0 x y p 7 j ≤ 999
    have b := g3 j hj
    have m := mk (j / 9) (j % 9) (by omega)
    rw [show 9 * (j / 9) + j % 9 = j by omega] at m
    rw [m]
    split
    · rcases (by omega : j % 9 = 0 ∨ j % 9 = 1 ∨ j % 9 = 2 ∨ j % 9 = 3 ∨ j % 9 = 4 ∨ j % 9 = 5 ∨ j % 9 = 6 ∨ j % 9 = 7 ∨ j % 9 = 8) with e | e | e | e | e | e | e | e | e <;> rw [e] <;> decide
    · exact b
  · intro i hi
    rw [a8 _ (by omega), a8 _ (by omega)]; exact g4 i hi
  · rw [a0, a8 9 (by decide), zu_ne (by decide)]; exact t
  · rw [n0] at hk
    rw [mk k 6 (by decide), a4, a5]
    by_cases z : k = zN S
    · rw [if_pos z, z, zu_eq, zu_eq]; exact ⟨by decide, fun _ => rfl⟩
    · rw [if_neg z, zu_ne z, zu_ne z]; exact hl k (by omega)
end OPS3
