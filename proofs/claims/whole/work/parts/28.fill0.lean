/-! ALL THAT HOLDS AT A TIME: the equations of a moment p in the state σ -/
def zRun (σ : zSt) (p k : Nat) (st s : Int) : Prop := σ (p + 1) k = st ∧ σ (p + 2) k = (if σ 8 (9 * k + 4) = 1 then σ 22 k - 1 - s * σ 8 (9 * k + 1) % σ 22 k else s * σ 8 (9 * k + 1) % σ 22 k) ∧ σ (p + 3) k = s * σ 8 (9 * k + 1) / σ 22 k ∧ σ (p + 4) k = zBk σ p k ∧ σ (p + 5) k = s ∧ σ (p + 6) k = zStr σ p k
def zIdle (σ : zSt) (p k : Nat) (st bg : Int) : Prop := σ (p + 1) k = st ∧ σ (p + 2) k = -1 ∧ σ (p + 3) k = -1 ∧ σ (p + 4) k = bg ∧ σ (p + 5) k = 0 ∧ σ (p + 6) k = 0
def zOff (σ : zSt) (p k : Nat) : Prop := σ 3 k ≠ -1 ∧ ¬ (σ (p + 1) (σ 3 k).toNat = 2 ∨ σ (p + 1) (σ 3 k).toNat = 3)
def zMq (σ : zSt) (p k : Nat) : Prop := (zOff σ p k → zIdle σ p k 0 (-1)) ∧ (¬ zOff σ p k →
  ((zBk σ p k = -1 ∨ zTa σ p k < zBk σ p k) → zIdle σ p k 1 (zBk σ p k)) ∧
  (¬ (zBk σ p k = -1 ∨ zTa σ p k < zBk σ p k) → (zTa σ p k - zBk σ p k < σ 23 k → zRun σ p k 2 (zTa σ p k - zBk σ p k)) ∧
    (¬ zTa σ p k - zBk σ p k < σ 23 k → ((σ 8 (9 * k + 5) = 1 ∧ 0 < σ 23 k) → zRun σ p k 3 (σ 23 k - 1)) ∧ (¬ (σ 8 (9 * k + 5) = 1 ∧ 0 < σ 23 k) → zIdle σ p k 4 (zBk σ p k)))))
/-- two states that are alike for clips below k of moment p -/
def zAg (τ τ' : zSt) (p k : Nat) : Prop := (∀ a, (a < p ∨ p + 8 ≤ a) → τ' a = τ a) ∧ τ' p 0 = τ p 0 ∧ ∀ r, 1 ≤ r → r ≤ 6 → ∀ j, j < k → τ' (p + r) j = τ (p + r) j
section AG
variable {τ τ' : zSt} {p k : Nat}
theorem zAg.o (h : zAg τ τ' p k) (hp : 34 ≤ p) {a : Nat} (ha : a < 34) : τ' a = τ a := h.1 a (by omega)
theorem zTa_ag (h : zAg τ τ' p k) (hp : 34 ≤ p) {j : Nat} (hj : -1 ≤ τ 3 j ∧ τ 3 j < k) : zTa τ' p j = zTa τ p j := by
  unfold zTa
  rw [h.o hp (a := 3) (by decide), h.2.1]
  split
  · rfl
  · exact h.2.2 2 (by decide) (by decide) _ (by omega)
theorem zsame_ag {ar pa pb pa' pb' : Nat → Int} (ht : ∀ j, j < k → -1 ≤ ar j ∧ ar j < j) (ha : ∀ j, j < k → pa' j = pa j) (hb : ∀ j, j < k → pb' j = pb j) : ∀ f (x : Int), -1 ≤ x → x < k → zsame ar pa' pb' f x = zsame ar pa pb f x
  | 0, _, _, _ => rfl
  | f + 1, x, h1, h2 => by
    rw [zsame_s, zsame_s]
    split
    · rfl
    · rw [ha _ (by omega), hb _ (by omega)]
      split
      · have := ht x.toNat (by omega)
        exact zsame_ag ht ha hb f _ (by omega) (by omega)
      · rfl
theorem zTh_ag (h : zAg τ τ' p k) (hp : 34 ≤ p) (i : Nat) : zTh τ' p i = zTh τ p i := by
  unfold zTh; rw [h.o hp (a := 10) (by decide), h.2.1]
theorem zTh_row (h : zAg τ τ' p k) {i : Nat} (hi : i < 6) (hs : ∀ i, i < 6 → p + 8 ≤ 45 + 8 * i ∨ 45 + 8 * i + 8 ≤ p ∨ (p = 45 + 8 * i ∧ τ 10 i = τ p 0)) {r j : Nat} (h1 : 1 ≤ r) (h2 : r ≤ 6) (hj : j < k) : τ' (zTh τ p i + r) j = τ (zTh τ p i + r) j := by
  unfold zTh
  split
  · exact h.2.2 r h1 h2 j hj
  · next e =>
    rcases hs i hi with z | z | z
    · rw [h.1 _ (by omega)]
    · rw [h.1 _ (by omega)]
    · exact absurd z.2 e
theorem zbp_ag (h : zAg τ τ' p k) (hp : 34 ≤ p ∧ (p + 8 ≤ 43 ∨ 45 ≤ p)) (hs : ∀ i, i < 6 → p + 8 ≤ 45 + 8 * i ∨ 45 + 8 * i + 8 ≤ p ∨ (p = 45 + 8 * i ∧ τ 10 i = τ p 0)) (ht : ∀ j, j < k → -1 ≤ τ 3 j ∧ τ 3 j < j) {j : Nat} (hj : 0 ≤ τ 3 j ∧ τ 3 j < k) {i : Nat} (hi : 0 ≤ τ 43 i ∧ τ 43 i < 6) : zbp τ' p j i = zbp τ p j i := by
  unfold zbp
  rw [h.1 43 (by omega), h.o hp.1 (a := 3) (by decide), h.o hp.1 (a := 7) (by decide), h.o hp.1 (a := 9) (by decide), h.o hp.1 (a := 10) (by decide), h.o hp.1 (a := 25) (by decide), h.2.1, zTh_ag h hp.1, zTh_row h (by omega) hs (by decide) (by decide) (by omega)]
  rw [zsame_ag ht (fun j hj => h.2.2 3 (by decide) (by decide) j hj) (fun j hj => zTh_row h (by omega) hs (by decide) (by decide) hj) 12 _ (by omega) hj.2]
theorem zBk_ag (h : zAg τ τ' p k) (hp : 34 ≤ p ∧ (p + 8 ≤ 43 ∨ 45 ≤ p)) (hs : ∀ i, i < 6 → p + 8 ≤ 45 + 8 * i ∨ 45 + 8 * i + 8 ≤ p ∨ (p = 45 + 8 * i ∧ τ 10 i = τ p 0)) (ht : ∀ j, j < k → -1 ≤ τ 3 j ∧ τ 3 j < j) {j : Nat} (hj : τ 26 j = 0 ∨ 0 ≤ τ 3 j ∧ τ 3 j < k) (hor : ∀ i, i < (τ 1 8).toNat → 0 ≤ τ 43 i ∧ τ 43 i < 6) : zBk τ' p j = zBk τ p j := by
  unfold zBk
  rw [h.o hp.1 (a := 26) (by decide), h.o hp.1 (a := 24) (by decide)]
  split
  · rfl
  · next e =>
    have hj : 0 ≤ τ 3 j ∧ τ 3 j < k := hj.resolve_left e
    unfold zBP
    rw [h.o hp.1 (a := 1) (by decide), zfst_congr (q := zbp τ p j) (fun i hi => zbp_ag h hp hs ht hj (hor i hi))]
    split
    · rfl
    · next e2 =>
      have z := zfst_range (p := zbp τ p j) (n := (τ 1 8).toNat)
      have o := hor (zfst (zbp τ p j) (τ 1 8).toNat).toNat (by omega)
      rw [h.1 43 (by omega), h.o hp.1 (a := 3) (by decide), h.o hp.1 (a := 24) (by decide), zTh_ag h hp.1, zTh_row h (by omega) hs (by decide) (by decide) (by omega)]
theorem zStr_ag (h : zAg τ τ' p k) (hp : 34 ≤ p) {j : Nat} (hj : j < k) (ha : -1 ≤ τ 3 j ∧ τ 3 j < k) : zStr τ' p j = zStr τ p j := by
  unfold zStr zOwn
  rw [h.o hp (a := 3) (by decide), h.o hp (a := 8) (by decide), h.o hp (a := 23) (by decide), h.2.2 5 (by decide) (by decide) j hj]
  congr 2
  split
  · rfl
  · exact h.2.2 6 (by decide) (by decide) _ (by omega)
theorem zOff_ag (h : zAg τ τ' p k) (hp : 34 ≤ p) {j : Nat} (ha : -1 ≤ τ 3 j ∧ τ 3 j < k) : zOff τ' p j ↔ zOff τ p j := by
  unfold zOff
  rw [h.o hp (a := 3) (by decide)]
  by_cases e : τ 3 j = -1
  · simp [e]
  · rw [h.2.2 1 (by decide) (by decide) _ (by omega)]
theorem zMq_ag (h : zAg τ τ' p k) (hp : 34 ≤ p ∧ (p + 8 ≤ 43 ∨ 45 ≤ p)) (hs : ∀ i, i < 6 → p + 8 ≤ 45 + 8 * i ∨ 45 + 8 * i + 8 ≤ p ∨ (p = 45 + 8 * i ∧ τ 10 i = τ p 0)) (ht : ∀ j, j < k → -1 ≤ τ 3 j ∧ τ 3 j < j) (hor : ∀ i, i < (τ 1 8).toNat → 0 ≤ τ 43 i ∧ τ 43 i < 6) {j : Nat} (hj : j < k) (ho : τ 26 j = 0 ∨ 0 ≤ τ 3 j) (hm : zMq τ p j) : zMq τ' p j := by
  have t := ht j hj
  have r : ∀ r, 1 ≤ r → r ≤ 6 → τ' (p + r) j = τ (p + r) j := fun r h1 h2 => h.2.2 r h1 h2 j hj
  unfold zMq zIdle zRun at *
  rw [zOff_ag h hp.1 ⟨t.1, by omega⟩, zTa_ag h hp.1 ⟨t.1, by omega⟩, zBk_ag h hp hs ht (by rcases ho with z | z; exact Or.inl z; exact Or.inr ⟨z, by omega⟩) hor, zStr_ag h hp.1 hj ⟨t.1, by omega⟩, h.o hp.1 (a := 23) (by decide), h.o hp.1 (a := 22) (by decide), h.o hp.1 (a := 8) (by decide), r 1 (by decide) (by decide), r 2 (by decide) (by decide), r 3 (by decide) (by decide), r 4 (by decide) (by decide), r 5 (by decide) (by decide), r 6 (by decide) (by decide)]
  exact hm
end AG
/-- what the layout says of clip k, as far as a moment asks it -/
def zKk (σ : zSt) (k : Nat) : Prop := (-1 ≤ σ 3 k ∧ σ 3 k < k) ∧ (σ 26 k = 0 ∨ σ 26 k = 1 ∧ (0 ≤ σ 3 k ∧ 0 ≤ σ 25 k ∧ σ 25 k ≤ 11)) ∧ (0 ≤ σ 24 k ∧ σ 24 k ≤ 1000000000) ∧ (0 ≤ σ 23 k ∧ σ 23 k ≤ 1000000000) ∧ (0 < σ 23 k → 1 ≤ σ 22 k ∧ σ 22 k ≤ 100000000) ∧ (1 ≤ σ 8 (9 * k + 1) ∧ σ 8 (9 * k + 1) ≤ 4) ∧ ∀ s, 0 ≤ s → s < σ 23 k → s * σ 8 (9 * k + 1) / σ 22 k ≤ 1000000000
def zClr (σ : zSt) (p k : Nat) : zSt := zs (zs (zs (zs (zs (zs σ (p + 1) k 0) (p + 2) k (-1)) (p + 3) k (-1)) (p + 4) k (-1)) (p + 5) k 0) (p + 7) k 0
/-- a clip's step: cleared, filled, its strength -/
def zStp (σ : zSt) (p k : Nat) : zSt := zs (zFC (zClr σ p k) p k) (p + 6) k (if zFC (zClr σ p k) p k (p + 1) k = 2 ∨ zFC (zClr σ p k) p k (p + 1) k = 3 then zStr (zFC (zClr σ p k) p k) p k else 0)
/-- only place k of the rows of moment p is written -/
def zAt (σ σ' : zSt) (p k : Nat) : Prop := (∀ a, (a ≤ p ∨ p + 8 ≤ a) → σ' a = σ a) ∧ ∀ r, 1 ≤ r → r ≤ 7 → ∀ j, j ≠ k → σ' (p + r) j = σ (p + r) j
theorem zAt.rf {σ : zSt} {p k : Nat} : zAt σ σ p k := ⟨fun _ _ => rfl, fun _ _ _ _ _ => rfl⟩
theorem zAt.put {σ σ' : zSt} {p k r : Nat} {v : Int} (h : zAt σ σ' p k) (h1 : 1 ≤ r) (h2 : r ≤ 7) : zAt σ (zs σ' (p + r) k v) p k := ⟨fun a ha => by rw [zs_other (by omega)]; exact h.1 a ha, fun r' a b j hj => by
  by_cases e : r' = r
  · subst e; rw [zs_row, zu_ne hj]; exact h.2 r' a b j hj
  · rw [zs_other (by omega)]; exact h.2 r' a b j hj⟩
theorem zAt.tr {σ σ' σ2 : zSt} {p k : Nat} (h : zAt σ σ' p k) (g : zAt σ' σ2 p k) : zAt σ σ2 p k := ⟨fun a ha => (g.1 a ha).trans (h.1 a ha), fun r h1 h2 j hj => (g.2 r h1 h2 j hj).trans (h.2 r h1 h2 j hj)⟩
theorem zAt.ag {σ σ' : zSt} {p k : Nat} (h : zAt σ σ' p k) : zAg σ σ' p k := ⟨fun a ha => h.1 a (by omega), by rw [h.1 p (by omega)], fun r h1 h2 j hj => h.2 r h1 (by omega) j (by omega)⟩
theorem zClr_at (σ : zSt) (p k : Nat) : zAt σ (zClr σ p k) p k := (((((zAt.rf.put (by decide) (by decide)).put (by decide) (by decide)).put (by decide) (by decide)).put (by decide) (by decide)).put (by decide) (by decide)).put (by decide) (by decide)
theorem zFR_at (σ : zSt) (p k : Nat) (s : Int) : zAt σ (zFR σ p k s) p k := ((zAt.rf.put (by decide) (by decide)).put (by decide) (by decide)).put (by decide) (by decide)
theorem zFC_at (σ : zSt) (p k : Nat) : zAt σ (zFC σ p k) p k := by
  unfold zFC
  have a : ∀ v, zAt σ (zs (zs σ (p + 4) k (zBk σ p k)) (p + 1) k v) p k := fun v => (zAt.rf.put (by decide) (by decide)).put (by decide) (by decide)
  split
  · exact zAt.rf
  · split
    · exact a 1
    · split
      · exact (a 2).tr (zFR_at _ _ _ _)
      · split
        · exact (a 3).tr (zFR_at _ _ _ _)
        · exact a 4
theorem zStp_at (σ : zSt) (p k : Nat) : zAt σ (zStp σ p k) p k := ((zClr_at σ p k).tr (zFC_at _ _ _)).put (by decide) (by decide)
section STP
variable {σ : zSt} {p k : Nat}
/-- the rows at k behind the step -/
theorem zStp_mq (hp : 34 ≤ p ∧ (p + 8 ≤ 43 ∨ 45 ≤ p)) (hs : ∀ i, i < 6 → p + 8 ≤ 45 + 8 * i ∨ 45 + 8 * i + 8 ≤ p ∨ (p = 45 + 8 * i ∧ σ 10 i = σ p 0)) (ht : ∀ j, j ≤ k → -1 ≤ σ 3 j ∧ σ 3 j < j) (hor : ∀ i, i < (σ 1 8).toNat → 0 ≤ σ 43 i ∧ σ 43 i < 6) (ho : σ 26 k = 0 ∨ 0 ≤ σ 3 k) : zMq (zStp σ p k) p k := by
  have A := (zClr_at σ p k)
  have B := zFC_at (zClr σ p k) p k
  have hk := ht k (Nat.le_refl k)
  -- what is asked of the parents is the same in all
  have hC : ∀ a, a < 34 → zClr σ p k a = σ a := fun a ha => A.1 a (by omega)
  have c3 := hC 3 (by decide)
  have AG : zAg (zClr σ p k) (zStp σ p k) p k := (B.put (by decide) (by decide)).ag
  have hs2 : ∀ i, i < 6 → p + 8 ≤ 45 + 8 * i ∨ 45 + 8 * i + 8 ≤ p ∨ (p = 45 + 8 * i ∧ zClr σ p k 10 i = zClr σ p k p 0) := by rw [hC 10 (by decide), A.1 p (by omega)]; exact hs
  have ht2 : ∀ j, j < k → -1 ≤ zClr σ p k 3 j ∧ zClr σ p k 3 j < j := by rw [c3]; exact fun j hj => ht j (by omega)
  have hor2 : ∀ i, i < (zClr σ p k 1 8).toNat → 0 ≤ zClr σ p k 43 i ∧ zClr σ p k 43 i < 6 := by rw [hC 1 (by decide), A.1 43 (by omega)]; exact hor
  have e1 := zOff_ag AG hp.1 (j := k) (by rw [c3]; omega)
  have e2 := zTa_ag AG hp.1 (j := k) (by rw [c3]; omega)
  have e3 := zBk_ag AG hp hs2 ht2 (j := k) (by rw [c3, hC 26 (by decide)]; omega) hor2
  have o : ∀ a, a < 34 → zStp σ p k a = zClr σ p k a := fun a ha => AG.o hp.1 ha
  have e4 : zStr (zStp σ p k) p k = zStr (zFC (zClr σ p k) p k) p k := by
    have D : ∀ a, a < 34 → zFC (zClr σ p k) p k a = zClr σ p k a := fun a ha => B.1 a (by omega)
    unfold zStr zOwn
    rw [o 3 (by decide), o 8 (by decide), o 23 (by decide), D 3 (by decide), D 8 (by decide), D 23 (by decide)]
    have r5 : zStp σ p k (p + 5) = zFC (zClr σ p k) p k (p + 5) := zs_other (by omega)
    rw [r5]
    congr 2
    split
    · rfl
    · next e =>
      show zs _ (p + 6) k _ (p + 6) _ = _
      rw [zs_row, zu_ne (by rw [c3] at e ⊢; omega)]
  have r6 : zStp σ p k (p + 6) k = if zFC (zClr σ p k) p k (p + 1) k = 2 ∨ zFC (zClr σ p k) p k (p + 1) k = 3 then zStr (zFC (zClr σ p k) p k) p k else 0 := zs_eq _ _ _ _
  have rr : ∀ r, r ≠ 6 → zStp σ p k (p + r) = zFC (zClr σ p k) p k (p + r) := fun r hr => zs_other (by omega)
  have d1 : zClr σ p k (p + 1) k = 0 := by simp [zClr, zs_app, zu_app]
  have d2 : zClr σ p k (p + 2) k = -1 := by simp [zClr, zs_app, zu_app]
  have d3 : zClr σ p k (p + 3) k = -1 := by simp [zClr, zs_app, zu_app]
  have d4 : zClr σ p k (p + 4) k = -1 := by simp [zClr, zs_app, zu_app]
  have d5 : zClr σ p k (p + 5) k = 0 := by simp [zClr, zs_app, zu_app]
  unfold zMq zIdle zRun
  rw [e1, e2, e3, e4, o 23 (by decide), o 22 (by decide), o 8 (by decide), r6, rr 1 (by decide), rr 2 (by decide), rr 3 (by decide), rr 4 (by decide), rr 5 (by decide)]
  refine ⟨fun z => ?_, fun z => ⟨fun z2 => ?_, fun z2 => ⟨fun z3 => ?_, fun z3 => ⟨fun z4 => ?_, fun z4 => ?_⟩⟩⟩⟩
  · have E : zFC (zClr σ p k) p k = zClr σ p k := by unfold zFC; exact if_pos z
    rw [E, d1, d2, d3, d4, d5]; simp
  · have E : zFC (zClr σ p k) p k = zs (zs (zClr σ p k) (p + 4) k (zBk (zClr σ p k) p k)) (p + 1) k 1 := by unfold zFC; unfold zOff at z; rw [if_neg z, if_pos z2]
    rw [E]; simp [zs_app, zu_app, d2, d3, d5]
  · have E : zFC (zClr σ p k) p k = zFR (zs (zs (zClr σ p k) (p + 4) k (zBk (zClr σ p k) p k)) (p + 1) k 2) p k (zTa (zClr σ p k) p k - zBk (zClr σ p k) p k) := by unfold zFC; unfold zOff at z; rw [if_neg z, if_neg z2, if_pos z3]
    have w8 : zs (zs (zClr σ p k) (p + 4) k (zBk (zClr σ p k) p k)) (p + 1) k 2 8 = zClr σ p k 8 := by rw [zs_other (by omega), zs_other (by omega)]
    have w22 : zs (zs (zClr σ p k) (p + 4) k (zBk (zClr σ p k) p k)) (p + 1) k 2 22 = zClr σ p k 22 := by rw [zs_other (by omega), zs_other (by omega)]
    have s1 : zFC (zClr σ p k) p k (p + 1) k = 2 := by rw [E]; simp [zFR, zs_app, zu_app]
    rw [s1, if_pos (Or.inl rfl)]
    rw [E]
    unfold zFR
    rw [w8, w22]
    simp [zs_app, zu_app]
  · have E : zFC (zClr σ p k) p k = zFR (zs (zs (zClr σ p k) (p + 4) k (zBk (zClr σ p k) p k)) (p + 1) k 3) p k (zClr σ p k 23 k - 1) := by unfold zFC; unfold zOff at z; rw [if_neg z, if_neg z2, if_neg z3, if_pos z4]
    have w8 : zs (zs (zClr σ p k) (p + 4) k (zBk (zClr σ p k) p k)) (p + 1) k 3 8 = zClr σ p k 8 := by rw [zs_other (by omega), zs_other (by omega)]
    have w22 : zs (zs (zClr σ p k) (p + 4) k (zBk (zClr σ p k) p k)) (p + 1) k 3 22 = zClr σ p k 22 := by rw [zs_other (by omega), zs_other (by omega)]
    have s1 : zFC (zClr σ p k) p k (p + 1) k = 3 := by rw [E]; simp [zFR, zs_app, zu_app]
    rw [s1, if_pos (Or.inr rfl)]
    rw [E]
    unfold zFR
    rw [w8, w22]
    simp [zs_app, zu_app]
  · have E : zFC (zClr σ p k) p k = zs (zs (zClr σ p k) (p + 4) k (zBk (zClr σ p k) p k)) (p + 1) k 4 := by unfold zFC; unfold zOff at z; rw [if_neg z, if_neg z2, if_neg z3, if_neg z4]
    rw [E]; simp [zs_app, zu_app, d2, d3, d5]
end STP
