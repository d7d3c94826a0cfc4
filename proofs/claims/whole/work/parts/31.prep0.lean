/-! the presses' order -/
theorem zpos_spec {tm a : Nat → Int} {t : Int} : ∀ p, (∀ i j, i < j → j < p → tm (a i).toNat ≤ tm (a j).toNat) → (∀ j, j < zpos tm a t p → tm (a j).toNat ≤ t) ∧ ∀ j, zpos tm a t p ≤ j → j < p → t < tm (a j).toNat
  | 0, _ => ⟨fun j hj => absurd hj (Nat.not_lt_zero j), fun j _ h => absurd h (Nat.not_lt_zero j)⟩
  | p + 1, hs => by
    have ih := zpos_spec (t := t) p (fun i j h1 h2 => hs i j h1 (by omega))
    rw [zpos_s]
    split
    · next z =>
      refine ⟨ih.1, fun j h1 h2 => ?_⟩
      rcases Nat.lt_or_ge j p with y | y
      · exact ih.2 j h1 y
      · rw [show j = p by omega]; exact z
    · next z =>
      refine ⟨fun j hj => ?_, fun j h1 h2 => by omega⟩
      rcases Nat.lt_or_ge j p with y | y
      · have := hs j p y (by omega); omega
      · rw [show j = p by omega]; omega
theorem zord_sorted (tm : Nat → Int) : ∀ n i j, i < j → j < n → tm (zord tm n i).toNat ≤ tm (zord tm n j).toNat
  | 0, i, j, _, h => by omega
  | n + 1, i, j, h1, h2 => by
    have ih := zord_sorted tm n
    obtain ⟨a, b⟩ := zpos_spec (tm := tm) (a := zord tm n) (t := tm n) n (fun i j x y => ih i j x y)
    have hp := zpos_le tm (zord tm n) (tm n) n
    have tn : ((n : Nat) : Int).toNat = n := Int.toNat_natCast n
    rw [zord_s, zord_s]
    by_cases i1 : i < zpos tm (zord tm n) (tm n) n
    · rw [if_pos i1]
      by_cases j1 : j < zpos tm (zord tm n) (tm n) n
      · rw [if_pos j1]; exact ih i j h1 (by omega)
      · rw [if_neg j1]
        by_cases j2 : j = zpos tm (zord tm n) (tm n) n
        · rw [if_pos j2, tn]; exact a i i1
        · rw [if_neg j2]
          have x := a i i1
          have y := b (j - 1) (by omega) (by omega)
          omega
    · rw [if_neg i1, if_neg (show ¬ j < zpos tm (zord tm n) (tm n) n by omega), if_neg (show ¬ j = zpos tm (zord tm n) (tm n) n by omega)]
      by_cases i2 : i = zpos tm (zord tm n) (tm n) n
      · rw [if_pos i2, tn]
        have y := b (j - 1) (by omega) (by omega)
        omega
      · rw [if_neg i2]; exact ih (i - 1) (j - 1) (by omega) (by omega)
theorem zord_inj (tm : Nat → Int) : ∀ n i j, i < n → j < n → zord tm n i = zord tm n j → i = j
  | 0, i, j, h, _ => by omega
  | n + 1, i, j, h1, h2 => by
    have ih := zord_inj tm n
    have hp := zpos_le tm (zord tm n) (tm n) n
    rw [zord_s, zord_s]
    have lt : ∀ i, i < n → zord tm n i < n := fun i hi => (zord_in tm n i hi).2
    intro e
    by_cases i1 : i < zpos tm (zord tm n) (tm n) n
    · rw [if_pos i1] at e
      by_cases j1 : j < zpos tm (zord tm n) (tm n) n
      · rw [if_pos j1] at e; exact ih i j (by omega) (by omega) e
      · rw [if_neg j1] at e
        by_cases j2 : j = zpos tm (zord tm n) (tm n) n
        · rw [if_pos j2] at e; have := lt i (by omega); omega
        · rw [if_neg j2] at e; have := ih i (j - 1) (by omega) (by omega) e; omega
    · rw [if_neg i1] at e
      by_cases i2 : i = zpos tm (zord tm n) (tm n) n
      · rw [if_pos i2] at e
        by_cases j1 : j < zpos tm (zord tm n) (tm n) n
        · rw [if_pos j1] at e; have := lt j (by omega); omega
        · rw [if_neg j1] at e
          by_cases j2 : j = zpos tm (zord tm n) (tm n) n
          · omega
          · rw [if_neg j2] at e; have := lt (j - 1) (by omega); omega
      · rw [if_neg i2] at e
        by_cases j1 : j < zpos tm (zord tm n) (tm n) n
        · rw [if_pos j1] at e; have := ih (i - 1) j (by omega) (by omega) e; omega
        · rw [if_neg j1] at e
          by_cases j2 : j = zpos tm (zord tm n) (tm n) n
          · rw [if_pos j2] at e; have := lt (i - 1) (by omega); omega
          · rw [if_neg j2] at e; have := ih (i - 1) (j - 1) (by omega) (by omega) e; omega
/-! what the layout gives a moment -/
section KK
variable {S : zSt} {d r : Nat → Nat} {si ac : Nat → Int} {k : Nat}
theorem zBs_in (hv : zVal S d r) : ∀ f k, k < zN S → zBs S f k < zN S ∧ S 2 (zBs S f k) = S 2 k
  | 0, k, hk => ⟨hk, rfl⟩
  | f + 1, k, hk => by
    rw [zBs_s]
    split
    · next hb =>
      have a := (hv.2.2.1 k hk).2.2.2.2 (fun e => by rw [e] at hb; cases hb)
      have t := hv.2.1 k hk
      have hq : ((S 2 k).toNat : Int) = S 2 k := by
        have : ¬ S 2 k = -1 := fun e => by have := t.2.2.mpr e; omega
        omega
      obtain ⟨g1, g2, g3, -⟩ := hv.2.2.2.1 (S 2 k).toNat (by omega) k hk hq.symm hb
      have := zBs_in hv f (S 5 k).toNat g2
      exact ⟨this.1, by rw [this.2, g3]; omega⟩
    · exact ⟨hk, rfl⟩
theorem zBe_in (hv : zVal S d r) (h : zLay S si ac) (hk : k < zN S) : 0 ≤ zBe S ac k ∧ zBe S ac k ≤ 81000000 := by
  have m := (hv.2.2.1 k hk).1.2.2.2.2
  have t := hv.2.1 k hk
  unfold zBe
  split
  · omega
  · next e =>
    have hq : (((S 2 k).toNat : Nat) : Int) = S 2 k := by omega
    have qN : (S 2 k).toNat < zN S := by omega
    have L := zLay_from hv h (zN S - ((S 2 k).toNat + 1)) ((S 2 k).toNat + 1) (by omega)
    have c := zCS_le hv qN L
    have hA : ∀ j, j < zN S → S 2 j = (((S 2 k).toNat : Nat) : Int) → 0 ≤ ac j := fun j hj _ => (zLay_bound hv h hj).2.1
    have hF : ∀ j, j < zN S → S 2 j = (((S 2 k).toNat : Nat) : Int) → 0 ≤ zF S ac j := fun j hj e => by
      have a := (hv.2.2.1 j hj).1.2.2.2.2
      have b := hA j hj e
      unfold zF; omega
    split
    · have e1 := zEn_0 hF (S 3 k).toNat
      have e2 := zEn_le' hF (S 3 k).toNat
      omega
    · have b := zBg_le (hv.2.2.2.1 _ qN) (fun j hj => (hv.2.2.1 j hj).1.2.2.2.2.1) hA hk hq.symm
      have a := (zLay_bound hv h hk).2.1
      omega
theorem zAc_pos (hm : zMk S k) {x : Int} (h0 : 0 ≤ x) (h : 0 < zAc S x k) : 1 ≤ x := by
  obtain ⟨h1, h2, h3, h4, h5⟩ := hm
  by_cases e : x = 0
  · subst e
    have w : zAcW S 0 k = 0 := by
      unfold zAcW
      rw [Int.zero_mul, Int.zero_add]
      exact Int.ediv_eq_zero_of_lt (by omega) (by omega)
    unfold zAc at h
    rw [w] at h
    split at h <;> omega
  · omega
theorem zAc_pass (hm : zMk S k) {x s : Int} (h0 : 1 ≤ x) (s0 : 0 ≤ s) (h : s < zAc S x k) : s * S 7 (9 * k + 1) / x ≤ 1000000000 := by
  obtain ⟨h1, h2, h3, h4, h5⟩ := hm
  have w : s < zAcW S x k := by
    unfold zAc at h
    split at h <;> omega
  have a : (s + 1) * S 7 (9 * k + 1) ≤ x * S 7 (9 * k + 2) + S 7 (9 * k + 1) - 1 := by
    have := (Int.le_ediv_iff_mul_le (show 0 < S 7 (9 * k + 1) by omega)).mp (show s + 1 ≤ zAcW S x k by omega)
    exact this
  rw [Int.add_mul, Int.one_mul] at a
  have b : x * S 7 (9 * k + 2) ≤ x * 9 := Int.mul_le_mul_of_nonneg_left h3.2 (by omega)
  have c : s * S 7 (9 * k + 1) / x ≤ 9 := by
    apply Int.ediv_le_of_le_mul (by omega)
    rw [Int.mul_comm 9 x]
    omega
  omega
end KK
/-- measured, so each clip is as a moment asks it -/
theorem zMeas_kk {σ σ' : zSt} {d r : Nat → Nat} (hv : zVal (zSv σ 1) d r) (hg : zGood σ 1) (h : zMeas σ σ' 1 21) : ∀ k, k < (σ 1 0).toNat → zKk σ' k := by
  intro k hk
  obtain ⟨h1, h2, h3, h4, h5, h6⟩ := h
  have s3 : σ' 3 = σ 3 := h1 3 (by omega)
  have s8 : σ' 8 = σ 8 := h1 8 (by omega)
  have b := zLay_bound hv h2 hk
  have a := h3 k hk
  have t : σ 3 k < k ∧ -1 ≤ σ 3 k ∧ _ := hv.2.1 k hk
  have mk := (hv.2.2.1 k hk).1
  have bb := zBs_in hv 12 k hk
  have hN : zN (zSv σ 1) ≤ 12 := hv.1.1
  have be := zBe_in hv h2 hk
  have l := h2 k hk
  unfold zKk
  rw [s3, s8]
  refine ⟨⟨t.2.1, t.1⟩, ?_, ?_, ⟨b.2.1, by have := b.2.2; show σ' (21 + 2) k ≤ _; omega⟩, fun z => ⟨?_, by have := b.1.2; show σ' (21 + 1) k ≤ _; omega⟩, mk.2.1, fun s s0 s1 => ?_⟩
  · have a5 : σ' 26 k = if zOk (zSv σ 1) k = true then 1 else 0 := a.2.2
    have a4 : σ' 25 k = (zBs (zSv σ 1) 12 k : Int) := a.2.1
    rw [a5, a4]
    cases ho : zOk (zSv σ 1) k with
    | false => exact Or.inl rfl
    | true =>
      refine Or.inr ⟨rfl, ?_, by omega, by omega⟩
      unfold zOk at ho
      split at ho
      · cases ho
      · next e => have e : ¬ σ 3 k = -1 := e; omega
  · have a3 : σ' 24 k = zBe (zSv σ 1) (σ' (21 + 2)) k := a.1
    rw [a3]; omega
  · have l2 : σ' 23 k = zAc (zSv σ 1) (σ' (21 + 1) k) k := l.2
    rw [l2] at z
    exact zAc_pos mk b.1.1 z
  · have l2 : σ' 23 k = zAc (zSv σ 1) (σ' (21 + 1) k) k := l.2
    rw [l2] at s1
    exact zAc_pass mk (zAc_pos mk b.1.1 (Int.lt_of_le_of_lt s0 s1)) s0 s1
