/-! bounds within a moment -/
section MR
variable {σ : zSt} {p k : Nat}
theorem zBk_in (rp : zMr σ p) (rA : ∀ j, j < 6 → zMr σ (45 + 8 * j)) (hor : ∀ i, i < (σ 1 8).toNat → 0 ≤ σ 43 i ∧ σ 43 i < 6) (hk : k < 12) (h : zKk σ k) : -1 ≤ zBk σ p k ∧ zBk σ p k ≤ 2000000000 := by
  obtain ⟨h1, h2, h3, h4, h5, h6, h7⟩ := h
  unfold zBk
  split
  · omega
  · unfold zBP
    split
    · omega
    · next e1 e2 =>
      have z := zfst_range (p := zbp σ p k) (n := (σ 1 8).toNat)
      have o := hor (zfst (zbp σ p k) (σ 1 8).toNat).toNat (by omega)
      unfold zTh
      split
      · have := (rp.2 (σ 3 k).toNat (by omega)).2.1; omega
      · have := ((rA (σ 43 (zfst (zbp σ p k) (σ 1 8).toNat).toNat).toNat (by omega)).2 (σ 3 k).toNat (by omega)).2.1; omega
/-- one row's place anew keeps the bounds -/
theorem zMr_put {σ' : zSt} (rp : zMr σ p) (h : zAt σ σ' p k) (hk : (0 ≤ σ' (p + 1) k ∧ σ' (p + 1) k ≤ 4) ∧ (-1 ≤ σ' (p + 2) k ∧ σ' (p + 2) k ≤ 1000000000) ∧ (-1 ≤ σ' (p + 3) k ∧ σ' (p + 3) k ≤ 1000000000) ∧ (-1 ≤ σ' (p + 4) k ∧ σ' (p + 4) k ≤ 2000000000) ∧ (0 ≤ σ' (p + 5) k ∧ σ' (p + 5) k ≤ 1000000000) ∧ (0 ≤ σ' (p + 6) k ∧ σ' (p + 6) k ≤ 100) ∧ (0 ≤ σ' (p + 7) k ∧ σ' (p + 7) k ≤ 100)) : zMr σ' p := by
  refine ⟨by rw [h.1 p (by omega)]; exact rp.1, fun j hj => ?_⟩
  by_cases e : j = k
  · subst e; exact hk
  · rw [h.2 1 (by decide) (by decide) j e, h.2 2 (by decide) (by decide) j e, h.2 3 (by decide) (by decide) j e, h.2 4 (by decide) (by decide) j e, h.2 5 (by decide) (by decide) j e, h.2 6 (by decide) (by decide) j e, h.2 7 (by decide) (by decide) j e]
    exact rp.2 j hj
theorem zClr_mr (rp : zMr σ p) (hk : k < 12) : zMr (zClr σ p k) p := by
  have a := rp.2 k hk
  refine zMr_put rp (zClr_at σ p k) ?_
  have d6 : zClr σ p k (p + 6) k = σ (p + 6) k := by simp [zClr, zs_app, zu_app]
  rw [show zClr σ p k (p + 1) k = 0 by simp [zClr, zs_app, zu_app], show zClr σ p k (p + 2) k = -1 by simp [zClr, zs_app, zu_app], show zClr σ p k (p + 3) k = -1 by simp [zClr, zs_app, zu_app], show zClr σ p k (p + 4) k = -1 by simp [zClr, zs_app, zu_app], show zClr σ p k (p + 5) k = 0 by simp [zClr, zs_app, zu_app], show zClr σ p k (p + 7) k = 0 by simp [zClr, zs_app, zu_app], d6]
  exact ⟨by decide, by decide, by decide, by decide, by decide, a.2.2.2.2.2.1, by decide⟩
/-- the rows that fillClip leaves at k -/
theorem zFC_rows (hp : 34 ≤ p) (rp : zMr σ p) (rA : ∀ j, j < 6 → zMr σ (45 + 8 * j)) (hor : ∀ i, i < (σ 1 8).toNat → 0 ≤ σ 43 i ∧ σ 43 i < 6) (hk : k < 12) (h : zKk σ k) : zMr (zFC σ p k) p ∧ (zFC σ p k (p + 1) k = 2 ∨ zFC σ p k (p + 1) k = 3 → (σ (p + 1) k ≠ 2 ∧ σ (p + 1) k ≠ 3) → 0 ≤ zFC σ p k (p + 5) k ∧ zFC σ p k (p + 5) k ≤ σ 23 k) ∧ zFC σ p k (p + 6) = σ (p + 6) ∧ zFC σ p k (p + 7) = σ (p + 7) := by
  have b := zBk_in rp rA hor hk h
  have a := rp.2 k hk
  obtain ⟨h1, h2, h3, h4, h5, h6, h7⟩ := h
  have A := zFC_at σ p k
  have fr : ∀ (st s : Int), (st = 2 ∨ st = 3) → 0 ≤ s → s < σ 23 k → zFC σ p k = zFR (zs (zs σ (p + 4) k (zBk σ p k)) (p + 1) k st) p k s → zMr (zFC σ p k) p ∧ (zFC σ p k (p + 1) k = 2 ∨ zFC σ p k (p + 1) k = 3 → (σ (p + 1) k ≠ 2 ∧ σ (p + 1) k ≠ 3) → 0 ≤ zFC σ p k (p + 5) k ∧ zFC σ p k (p + 5) k ≤ σ 23 k) ∧ zFC σ p k (p + 6) = σ (p + 6) ∧ zFC σ p k (p + 7) = σ (p + 7) := by
    intro st s hst s0 s1 E
    have w8 : zs (zs σ (p + 4) k (zBk σ p k)) (p + 1) k st 8 = σ 8 := by rw [zs_other (by omega), zs_other (by omega)]
    have w22 : zs (zs σ (p + 4) k (zBk σ p k)) (p + 1) k st 22 = σ 22 := by rw [zs_other (by omega), zs_other (by omega)]
    have si := h5 (by omega)
    have m0 : 0 ≤ s * σ 8 (9 * k + 1) := Int.mul_nonneg s0 (by omega)
    have r0 := Int.emod_nonneg (s * σ 8 (9 * k + 1)) (show σ 22 k ≠ 0 by omega)
    have r1 := Int.emod_lt_of_pos (s * σ 8 (9 * k + 1)) (show 0 < σ 22 k by omega)
    have q0 : 0 ≤ s * σ 8 (9 * k + 1) / σ 22 k := Int.ediv_nonneg m0 (by omega)
    have q1 := h7 s s0 s1
    have e1 : zFC σ p k (p + 1) k = st := by rw [E]; simp [zFR, zs_app, zu_app]
    have e2 : zFC σ p k (p + 2) k = (if σ 8 (9 * k + 4) = 1 then σ 22 k - 1 - s * σ 8 (9 * k + 1) % σ 22 k else s * σ 8 (9 * k + 1) % σ 22 k) := by rw [E]; unfold zFR; rw [w8, w22]; simp [zs_app, zu_app]
    have e3 : zFC σ p k (p + 3) k = s * σ 8 (9 * k + 1) / σ 22 k := by rw [E]; unfold zFR; rw [w8, w22]; simp [zs_app, zu_app]
    have e4 : zFC σ p k (p + 4) k = zBk σ p k := by rw [E]; simp [zFR, zs_app, zu_app]
    have e5 : zFC σ p k (p + 5) k = s := by rw [E]; simp [zFR, zs_app, zu_app]
    have e6 : zFC σ p k (p + 6) = σ (p + 6) := by rw [E]; unfold zFR; rw [zs_other (by omega), zs_other (by omega), zs_other (by omega), zs_other (by omega), zs_other (by omega)]
    have e7 : zFC σ p k (p + 7) = σ (p + 7) := by rw [E]; unfold zFR; rw [zs_other (by omega), zs_other (by omega), zs_other (by omega), zs_other (by omega), zs_other (by omega)]
    refine ⟨zMr_put rp A ?_, fun _ _ => by rw [e5]; omega, e6, e7⟩
    rw [e1, e2, e3, e4, e5, e6, e7]
    refine ⟨by omega, by split <;> omega, ⟨by omega, q1⟩, b, by omega, a.2.2.2.2.2.1, a.2.2.2.2.2.2⟩
  have idle : ∀ st : Int, (st = 1 ∨ st = 4) → zFC σ p k = zs (zs σ (p + 4) k (zBk σ p k)) (p + 1) k st → zMr (zFC σ p k) p ∧ (zFC σ p k (p + 1) k = 2 ∨ zFC σ p k (p + 1) k = 3 → (σ (p + 1) k ≠ 2 ∧ σ (p + 1) k ≠ 3) → 0 ≤ zFC σ p k (p + 5) k ∧ zFC σ p k (p + 5) k ≤ σ 23 k) ∧ zFC σ p k (p + 6) = σ (p + 6) ∧ zFC σ p k (p + 7) = σ (p + 7) := by
    intro st hst E
    have e1 : zFC σ p k (p + 1) k = st := by rw [E]; simp [zs_app, zu_app]
    have e4 : zFC σ p k (p + 4) k = zBk σ p k := by rw [E]; simp [zs_app, zu_app]
    have ee : ∀ r, r ≠ 1 → r ≠ 4 → zFC σ p k (p + r) = σ (p + r) := fun r r1 r4 => by rw [E, zs_other (by omega), zs_other (by omega)]
    refine ⟨zMr_put rp A ?_, fun z _ => by rw [e1] at z; omega, ee 6 (by decide) (by decide), ee 7 (by decide) (by decide)⟩
    rw [e1, e4, ee 2 (by decide) (by decide), ee 3 (by decide) (by decide), ee 5 (by decide) (by decide), ee 6 (by decide) (by decide), ee 7 (by decide) (by decide)]
    exact ⟨by omega, a.2.1, a.2.2.1, b, a.2.2.2.2.1, a.2.2.2.2.2.1, a.2.2.2.2.2.2⟩
  by_cases z : σ 3 k ≠ -1 ∧ ¬ (σ (p + 1) (σ 3 k).toNat = 2 ∨ σ (p + 1) (σ 3 k).toNat = 3)
  · have E : zFC σ p k = σ := by unfold zFC; rw [if_pos z]
    rw [E]
    exact ⟨rp, fun x y => by omega, rfl, rfl⟩
  · by_cases z2 : zBk σ p k = -1 ∨ zTa σ p k < zBk σ p k
    · exact idle 1 (Or.inl rfl) (by unfold zFC; rw [if_neg z, if_pos z2])
    · by_cases z3 : zTa σ p k - zBk σ p k < σ 23 k
      · exact fr 2 _ (Or.inl rfl) (by omega) z3 (by unfold zFC; rw [if_neg z, if_neg z2, if_pos z3])
      · by_cases z4 : σ 8 (9 * k + 5) = 1 ∧ 0 < σ 23 k
        · exact fr 3 (σ 23 k - 1) (Or.inr rfl) (by omega) (by omega) (by unfold zFC; rw [if_neg z, if_neg z2, if_neg z3, if_pos z4])
        · exact idle 4 (Or.inr rfl) (by unfold zFC; rw [if_neg z, if_neg z2, if_neg z3, if_neg z4])
theorem zKk_eq {σ' : zSt} (h : ∀ a, a < 34 → σ' a = σ a) (hk : zKk σ k) : zKk σ' k := by
  unfold zKk at *
  rw [h 3 (by decide), h 26 (by decide), h 25 (by decide), h 24 (by decide), h 23 (by decide), h 22 (by decide), h 8 (by decide)]
  exact hk
theorem zStr_in (hp : 34 ≤ p) (h5 : 0 ≤ σ (p + 5) k ∧ σ (p + 5) k ≤ σ 23 k) (h7 : 0 ≤ σ 8 (9 * k + 7)) (h8 : 0 ≤ σ 8 (9 * k + 8)) (h6 : ∀ j, j < 12 → 0 ≤ σ (p + 6) j ∧ σ (p + 6) j ≤ 100) (ha : -1 ≤ σ 3 k ∧ σ 3 k ≤ 11) : 0 ≤ zStr σ p k ∧ zStr σ p k ≤ 100 := by
  have ow := zOwn_in h5.1 h5.2 h7 h8
  have st : 0 ≤ (if σ 3 k = -1 then 100 else σ (p + 6) (σ 3 k).toNat) ∧ (if σ 3 k = -1 then 100 else σ (p + 6) (σ 3 k).toNat) ≤ 100 := by
    split
    · omega
    · exact h6 _ (by omega)
  have pr0 : 0 ≤ zOwn σ p k * (if σ 3 k = -1 then 100 else σ (p + 6) (σ 3 k).toNat) := Int.mul_nonneg ow.1 st.1
  have pr1 : zOwn σ p k * (if σ 3 k = -1 then 100 else σ (p + 6) (σ 3 k).toNat) ≤ 100 * 100 := Int.mul_le_mul ow.2 st.2 st.1 (by omega)
  unfold zStr
  omega
end MR
