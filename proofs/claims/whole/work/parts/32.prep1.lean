/-- a filled moment stays filled while what it asks stays -/
def zKp (σ σ' : zSt) (p : Nat) : Prop := (∀ a, a < 33 → σ' a = σ a) ∧ σ' 33 6 = σ 33 6 ∧ σ' 43 = σ 43 ∧ σ' 44 = σ 44 ∧ (∀ r, r ≤ 7 → σ' (p + r) = σ (p + r)) ∧ ∀ i, i < (σ 1 8).toNat → σ 10 (σ 43 i).toNat < σ p 0 → ∀ r, 1 ≤ r → r ≤ 3 → σ' (45 + 8 * (σ 43 i).toNat + r) = σ (45 + 8 * (σ 43 i).toNat + r)
theorem zKp_bk {σ σ' : zSt} {p k : Nat} (h : zKp σ σ' p) : zBk σ' p k = zBk σ p k := by
  obtain ⟨h1, h2, h3, h4, h5, h6⟩ := h
  have p0 : σ' p = σ p := h5 0 (by decide)
  have th : ∀ j, zTh σ' p j = zTh σ p j := fun j => by unfold zTh; rw [h1 10 (by decide), p0]
  have row : ∀ i, i < (σ 1 8).toNat → σ 10 (σ 43 i).toNat ≤ σ p 0 → ∀ r, 1 ≤ r → r ≤ 3 → σ' (zTh σ p (σ 43 i).toNat + r) = σ (zTh σ p (σ 43 i).toNat + r) := fun i hi ht r r1 r2 => by
    unfold zTh
    split
    · exact h5 r (by omega)
    · exact h6 i hi (by omega) r r1 r2
  have bp : ∀ i, i < (σ 1 8).toNat → zbp σ' p k i = zbp σ p k i := fun i hi => by
    unfold zbp
    rw [h3, h1 9 (by decide), h1 7 (by decide), h1 25 (by decide), h1 10 (by decide), h1 3 (by decide), p0, h5 3 (by decide), th]
    by_cases z : σ 10 (σ 43 i).toNat ≤ σ p 0
    · rw [row i hi z 1 (by decide) (by decide), row i hi z 3 (by decide) (by decide)]
    · rw [decide_eq_false (fun q => z q.2.1), decide_eq_false (fun q => z q.2.1)]
      rfl
  unfold zBk
  rw [h1 26 (by decide), h1 24 (by decide)]
  split
  · rfl
  · unfold zBP
    rw [h1 1 (by decide), zfst_congr (q := zbp σ p k) bp]
    rcases zfst_spec (p := zbp σ p k) (n := (σ 1 8).toNat) with ⟨e, -⟩ | ⟨i, e1, e2, e3, -⟩
    · rw [if_pos e, if_pos e]
    · rw [if_neg (by omega), if_neg (by omega), e1, Int.toNat_natCast, h3, h1 3 (by decide), h1 24 (by decide), th]
      have z : σ 10 (σ 43 i).toNat ≤ σ p 0 := by
        unfold zbp at e3
        rw [Bool.and_eq_true] at e3
        exact (of_decide_eq_true e3.1).2.1
      rw [row i e2 z 2 (by decide) (by decide)]
theorem zKp_mq {σ σ' : zSt} {p k : Nat} (h : zKp σ σ' p) (hm : zMq σ p k) : zMq σ' p k := by
  have b := zKp_bk (k := k) h
  obtain ⟨h1, h2, h3, h4, h5, h6⟩ := h
  have p0 : σ' p = σ p := h5 0 (by decide)
  unfold zMq zOff zIdle zRun zStr zOwn zTa at *
  rw [b, p0, h1 3 (by decide), h1 8 (by decide), h1 22 (by decide), h1 23 (by decide), h5 1 (by decide), h5 2 (by decide), h5 3 (by decide), h5 4 (by decide), h5 5 (by decide), h5 6 (by decide)]
  exact hm
theorem zKp_filled {σ σ' : zSt} {p : Nat} (h : zKp σ σ' p) (hm : zFilled σ p) : zFilled σ' p := by
  obtain ⟨m1, m2, m3, m4⟩ := hm
  have mq : ∀ k, k < (σ 1 0).toNat → zMq σ' p k := fun k hk => zKp_mq h (m1 k hk)
  obtain ⟨h1, h2, h3, h4, h5, h6⟩ := h
  have p0 : σ' p = σ p := h5 0 (by decide)
  unfold zFilled
  rw [h1 1 (by decide), h1 2 (by decide), h2, h4, h5 6 (by decide), h5 7 (by decide), p0]
  exact ⟨mq, m2, m3, m4⟩
/-- from when on nothing changes -/
def zsett (l : Int) (tm : Nat → Int) : Nat → Int
  | 0 => l
  | i + 1 => max (zsett l tm i) (tm i)
theorem zsett_s (l : Int) (tm : Nat → Int) (i : Nat) : zsett l tm (i + 1) = max (zsett l tm i) (tm i) := rfl
theorem zsett_in {l : Int} {tm : Nat → Int} (h : ∀ i, 0 ≤ tm i ∧ tm i ≤ 1999) (hl : 0 ≤ l) : ∀ i, l ≤ zsett l tm i ∧ zsett l tm i ≤ max l 1999
  | 0 => ⟨Int.le_refl l, by show l ≤ _; omega⟩
  | i + 1 => by
    have a := zsett_in h hl i
    have b := h i
    rw [zsett_s]; omega
/-- THE STAGE AS IT STANDS behind prepare and at -/
def zLayd (σ : zSt) : Prop := zLay (zSv σ 1) (σ 22) (σ 23) ∧ (∀ k, k < (σ 1 0).toNat → σ 24 k = zBe (zSv σ 1) (σ 23) k ∧ σ 25 k = (zBs (zSv σ 1) 12 k : Int) ∧ σ 26 k = (if zOk (zSv σ 1) k = true then 1 else 0)) ∧ (∀ k, k < 12 → σ 26 k = 0 ∨ σ 26 k = 1) ∧ σ 21 5 = (if σ 1 0 = 0 then 0 else σ 7 0 + σ 23 0)
def zStood (σ : zSt) : Prop := σ 33 6 = (zcnt (fun j => decide (σ 2 j = 0)) (σ 1 0).toNat : Int) ∧ zStand (zSv σ 1) (σ 44) (zcnt (fun j => decide (σ 2 j = 0)) (σ 1 0).toNat)
def zOrd (σ : zSt) : Prop := ∀ j : Nat, (j : Int) < σ 1 8 → σ 43 j = zord (σ 10) (σ 1 8).toNat j
def zStage (σ : zSt) : Prop := zLayd σ ∧ (∀ k, k < (σ 1 0).toNat → zKk σ k) ∧ zStood σ ∧ zOrd σ ∧ (∀ i, i < (σ 1 8).toNat → σ (45 + 8 * (σ 43 i).toNat) 0 = σ 10 (σ 43 i).toNat ∧ zFilled σ (45 + 8 * (σ 43 i).toNat)) ∧ (zMr σ 34 ∧ ∀ j, j < 6 → zMr σ (45 + 8 * j)) ∧ σ 33 7 = zsett (σ 21 5) (fun i => σ 10 (σ 43 i).toNat) (σ 1 8).toNat ∧ (σ 34 0 = -1 ∨ zFilled σ 34)
theorem zOrd.in {σ : zSt} (h : zOrd σ) (hg : zGood σ 1) : ∀ i, i < (σ 1 8).toNat → 0 ≤ σ 43 i ∧ σ 43 i < 6 := fun i hi => by
  have a := h i (by omega)
  have b := zord_in (σ 10) (σ 1 8).toNat i hi
  have c : 0 ≤ σ 1 8 ∧ σ 1 8 ≤ 6 := hg.1.2.2
  omega
/-- the loop of prepare: i presses are done -/
def zPi (σ τ : zSt) (i : Nat) : Prop := (∀ a, (a < 45 ∨ 93 ≤ a) → a ≠ 33 → τ a = σ a) ∧ (∀ j, j ≠ 7 → τ 33 j = σ 33 j) ∧ τ 33 7 = zsett (σ 21 5) (fun i => σ 10 (σ 43 i).toNat) i ∧ (∀ j, j < 6 → zMr τ (45 + 8 * j)) ∧ ∀ q, q < i → τ (45 + 8 * (σ 43 q).toNat) 0 = σ 10 (σ 43 q).toNat ∧ zFilled τ (45 + 8 * (σ 43 q).toNat)
theorem zPi_pre {σ τ : zSt} {i : Nat} (hg : zGood σ 1) (hK : ∀ k, k < (σ 1 0).toNat → zKk σ k) (hs : zStood σ) (ho : zOrd σ) (h : zPi σ τ i) (hi : i < (σ 1 8).toNat) : zPreF τ (45 + 8 * (σ 43 i).toNat) (σ 10 (σ 43 i).toNat) := by
  obtain ⟨h1, h2, h3, h4, h5⟩ := h
  have o := ho.in hg i hi
  have low : ∀ a, a < 33 → τ a = σ a := fun a ha => h1 a (by omega) (by omega)
  have t10 : (0 ≤ σ 9 (σ 43 i).toNat ∧ σ 9 (σ 43 i).toNat ≤ 3) ∧ (0 ≤ σ 10 (σ 43 i).toNat ∧ σ 10 (σ 43 i).toNat ≤ 1999) := hg.2.2.2 _ (by omega)
  refine ⟨⟨zGood_eq (fun r hr => low _ (by omega)) hg, h4 _ (by omega), h4⟩, ?_, fun k hk => ?_, ⟨by omega, by omega⟩, fun q hq => ?_, t10.2, ?_⟩
  · rw [low 1 (by decide), h1 43 (by decide) (by decide)]; exact ho.in hg
  · rw [low 1 (by decide)] at hk
    have := hK k hk
    unfold zKk at *
    rw [low 3 (by decide), low 26 (by decide), low 25 (by decide), low 24 (by decide), low 23 (by decide), low 22 (by decide), low 8 (by decide)]
    exact this
  · rw [low 10 (by decide)]
    by_cases e : q = (σ 43 i).toNat
    · exact Or.inr (Or.inr ⟨by omega, by rw [e]⟩)
    · omega
  · rw [h2 6 (by decide), low 1 (by decide), low 2 (by decide), h1 44 (by decide) (by decide)]
    refine ⟨hs.1, fun q hq => ?_⟩
    have := hs.2 q hq
    unfold zpo zAh zN zSv at *
    rw [low (1 + 0) (by decide), low (1 + 1) (by decide), low (1 + 7) (by decide)]
    exact this
theorem zPi_step {σ τ τ1 : zSt} {i : Nat} (hg : zGood σ 1) (ho : zOrd σ) (h : zPi σ τ i) (hi : i < (σ 1 8).toNat) (hf : zFillP τ τ1 (45 + 8 * (σ 43 i).toNat) (σ 10 (σ 43 i).toNat)) : zPi σ (zs τ1 33 7 (zsett (σ 21 5) (fun i => σ 10 (σ 43 i).toNat) (i + 1))) (i + 1) := by
  obtain ⟨h1, h2, h3, h4, h5⟩ := h
  obtain ⟨f1, f2, f3, f4⟩ := hf
  have o := ho.in hg
  have oi := o i hi
  have c : 0 ≤ σ 1 8 ∧ σ 1 8 ≤ 6 := hg.1.2.2
  -- a moment that isn't this one is the same
  have same : ∀ j, j < 6 → j ≠ (σ 43 i).toNat → ∀ r, r ≤ 7 → zs τ1 33 7 (zsett (σ 21 5) (fun i => σ 10 (σ 43 i).toNat) (i + 1)) (45 + 8 * j + r) = τ (45 + 8 * j + r) := fun j hj hne r hr => by rw [zs_other (by omega), f1 _ (by omega)]
  have this' : ∀ r, r ≤ 7 → zs τ1 33 7 (zsett (σ 21 5) (fun i => σ 10 (σ 43 i).toNat) (i + 1)) (45 + 8 * (σ 43 i).toNat + r) = τ1 (45 + 8 * (σ 43 i).toNat + r) := fun r hr => zs_other (by omega)
  have z6 : zs τ1 33 7 (zsett (σ 21 5) (fun i => σ 10 (σ 43 i).toNat) (i + 1)) 33 6 = τ1 33 6 := by rw [zs_row, zu_ne (by decide)]
  refine ⟨fun a ha h33 => by rw [zs_other h33, f1 a (by omega)]; exact h1 a ha h33, fun j hj => by rw [zs_row, zu_ne hj, f1 33 (by omega)]; exact h2 j hj, zs_eq _ _ _ _, fun j hj => ?_, fun q hq => ?_⟩
  · by_cases e : j = (σ 43 i).toNat
    · subst e
      unfold zMr at *
      rw [this' 1 (by decide), this' 2 (by decide), this' 3 (by decide), this' 4 (by decide), this' 5 (by decide), this' 6 (by decide), this' 7 (by decide), show zs τ1 33 7 (zsett (σ 21 5) (fun i => σ 10 (σ 43 i).toNat) (i + 1)) (45 + 8 * (σ 43 i).toNat) = τ1 (45 + 8 * (σ 43 i).toNat) from this' 0 (by decide)]
      exact f3
    · have := h4 j hj
      unfold zMr at *
      rw [same j hj e 1 (by decide), same j hj e 2 (by decide), same j hj e 3 (by decide), same j hj e 4 (by decide), same j hj e 5 (by decide), same j hj e 6 (by decide), same j hj e 7 (by decide), show zs τ1 33 7 (zsett (σ 21 5) (fun i => σ 10 (σ 43 i).toNat) (i + 1)) (45 + 8 * j) = τ (45 + 8 * j) from same j hj e 0 (by decide)]
      exact this
  · by_cases e : q = i
    · subst e
      rw [show zs τ1 33 7 (zsett (σ 21 5) (fun i => σ 10 (σ 43 i).toNat) (q + 1)) (45 + 8 * (σ 43 q).toNat) = τ1 (45 + 8 * (σ 43 q).toNat) from this' 0 (by decide)]
      refine ⟨f2, zKp_filled ⟨fun a ha => zs_other (by omega), z6, zs_other (by decide), zs_other (by decide), this', fun i2 _ _ r r1 r2 => zs_other (by omega)⟩ f4⟩
    · have hq2 := h5 q (by omega)
      have oq := o q (by omega)
      have ne : (σ 43 q).toNat ≠ (σ 43 i).toNat := fun z => by
        have a := ho q (by omega)
        have b := ho i (by omega)
        exact e (zord_inj (σ 10) (σ 1 8).toNat q i (by omega) hi (by omega))
      rw [show zs τ1 33 7 (zsett (σ 21 5) (fun i => σ 10 (σ 43 i).toNat) (i + 1)) (45 + 8 * (σ 43 q).toNat) = τ (45 + 8 * (σ 43 q).toNat) from same _ (by omega) ne 0 (by decide)]
      have s43 : τ 43 = σ 43 := h1 43 (by decide) (by decide)
      have s10 : τ 10 = σ 10 := h1 10 (by decide) (by decide)
      have s1 : τ 1 = σ 1 := h1 1 (by decide) (by decide)
      refine ⟨hq2.1, zKp_filled ⟨fun a ha => by rw [zs_other (by omega), f1 a (by omega)], by rw [z6, f1 33 (by omega)], by rw [zs_other (by decide), f1 43 (by omega)], by rw [zs_other (by decide), f1 44 (by omega)], same _ (by omega) ne, fun i2 hi2 ht2 r r1 r2 => ?_⟩ hq2.2⟩
      rw [s1] at hi2
      rw [s10, s43, hq2.1] at ht2
      rw [s43]
      have o2 := o i2 hi2
      refine same _ (by omega) (fun z => ?_) r (by omega)
      rw [z] at ht2
      have so := zord_sorted (σ 10) (σ 1 8).toNat q i (by omega) hi
      rw [← ho q (by omega), ← ho i (by omega)] at so
      omega
