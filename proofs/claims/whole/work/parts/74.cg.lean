/-- a filled moment stays filled while what it asks stays -/
def zKq (σ σ' : zSt) (p : Nat) : Prop := (∀ a, ((1 ≤ a ∧ a < 11) ∨ (21 ≤ a ∧ a < 27)) → σ' a = σ a) ∧ σ' 33 6 = σ 33 6 ∧ σ' 43 = σ 43 ∧ σ' 44 = σ 44 ∧ (∀ r, r ≤ 7 → σ' (p + r) = σ (p + r)) ∧ ∀ i, i < (σ 1 8).toNat → σ 10 (σ 43 i).toNat < σ p 0 → ∀ r, 1 ≤ r → r ≤ 3 → σ' (45 + 8 * (σ 43 i).toNat + r) = σ (45 + 8 * (σ 43 i).toNat + r)
theorem zKq_bk {σ σ' : zSt} {p k : Nat} (h : zKq σ σ' p) : zBk σ' p k = zBk σ p k := by
  obtain ⟨h1, h2, h3, h4, h5, h6⟩ := h
  have p0 : σ' p = σ p := h5 0 (by decide)
  have th : ∀ j, zTh σ' p j = zTh σ p j := fun j => by unfold zTh; rw [h1 10 (by decide), p0]
  have row : ∀ i, i < (σ 1 8).toNat → σ 10 (σ 43 i).toNat ≤ σ p 0 → ∀ r, 1 ≤ r → r ≤ 3 → σ' (zTh σ p (σ 43 i).toNat + r) = σ (zTh σ p (σ 43 i).toNat + r) := fun i hi ht r r1 r2 => by
    unfold zTh
    split
    · exact h5 r (by omega)
    · exact h6 i hi (by omega) r r1 r2
  have bp : ∀ i, i < (σ 1 8).toNat → zbp σ' p k i = zbp σ p k i := fun i hi => by
    unfold zbp
    rw [h3, h1 9 (by decide), h1 7 (by decide), h1 25 (by decide), h1 10 (by decide), h1 3 (by decide), p0, h5 3 (by decide), th]
    by_cases z : σ 10 (σ 43 i).toNat ≤ σ p 0
    · rw [row i hi z 1 (by decide) (by decide), row i hi z 3 (by decide) (by decide)]
    · rw [decide_eq_false (fun q => z q.2.1), decide_eq_false (fun q => z q.2.1)]
      rfl
  unfold zBk
  rw [h1 26 (by decide), h1 24 (by decide)]
  split
  · rfl
  · unfold zBP
    rw [h1 1 (by decide), zfst_congr (q := zbp σ p k) bp]
    rcases zfst_spec (p := zbp σ p k) (n := (σ 1 8).toNat) with ⟨e, -⟩ | ⟨i, e1, e2, e3, -⟩
    · rw [if_pos e, if_pos e]
    · rw [if_neg (by omega), if_neg (by omega), e1, Int.toNat_natCast, h3, h1 3 (by decide), h1 24 (by decide), th]
      have z : σ 10 (σ 43 i).toNat ≤ σ p 0 := by
        unfold zbp at e3
        rw [Bool.and_eq_true] at e3
        exact (of_decide_eq_true e3.1).2.1
      rw [row i e2 z 2 (by decide) (by decide)]
theorem zKq_mq {σ σ' : zSt} {p k : Nat} (h : zKq σ σ' p) (hm : zMq σ p k) : zMq σ' p k := by
  have b := zKq_bk (k := k) h
  obtain ⟨h1, h2, h3, h4, h5, h6⟩ := h
  have p0 : σ' p = σ p := h5 0 (by decide)
  unfold zMq zOff zIdle zRun zStr zOwn zTa at *
  rw [b, p0, h1 3 (by decide), h1 8 (by decide), h1 22 (by decide), h1 23 (by decide), h5 1 (by decide), h5 2 (by decide), h5 3 (by decide), h5 4 (by decide), h5 5 (by decide), h5 6 (by decide)]
  exact hm
theorem zKq_filled {σ σ' : zSt} {p : Nat} (h : zKq σ σ' p) (hm : zFilled σ p) : zFilled σ' p := by
  obtain ⟨m1, m2, m3, m4⟩ := hm
  have mq : ∀ k, k < (σ 1 0).toNat → zMq σ' p k := fun k hk => zKq_mq h (m1 k hk)
  obtain ⟨h1, h2, h3, h4, h5, h6⟩ := h
  have p0 : σ' p = σ p := h5 0 (by decide)
  unfold zFilled
  rw [h1 1 (by decide), h1 2 (by decide), h2, h4, h5 6 (by decide), h5 7 (by decide), p0]
  exact ⟨mq, m2, m3, m4⟩
theorem zOn_cg {σ σ' : zSt} (h : ∀ a, ((1 ≤ a ∧ a < 11) ∨ (21 ≤ a ∧ a < 27) ∨ (33 ≤ a ∧ a < 93)) → σ' a = σ a) (ho : zOn σ) : zOn σ' := by
  obtain ⟨hg, hV, ⟨l1, l2, l3, l4⟩, hK, hs, hor, hF, hM, h7, hN⟩ := ho
  have E : zEqv (zSv σ 1) (zSv σ' 1) := zEqv.of (fun r hr => h (1 + r) (by omega))
  have V' := hV.eqv E
  obtain ⟨⟨d, r, hv⟩, hV2⟩ := hV
  have fil : ∀ p, 33 ≤ p → p + 8 ≤ 93 → zFilled σ p → zFilled σ' p := fun p p33 hp hq => by
    refine zKq_filled ⟨fun a ha => h a (by omega), by rw [h 33 (by decide)], h 43 (by decide), h 44 (by decide), fun r hr => h _ (by omega), fun i2 hi _ r r1 r2 => ?_⟩ hq
    have := hor.in hg i2 hi
    exact h _ (by omega)
  have mr : ∀ p, 33 ≤ p → p + 8 ≤ 93 → zMr σ p → zMr σ' p := fun p p33 hp hq => by
    have q : ∀ r, r < 8 → σ' (p + r) = σ (p + r) := fun r hr => h _ (by omega)
    unfold zMr at *
    rw [q 1 (by decide), q 2 (by decide), q 3 (by decide), q 4 (by decide), q 5 (by decide), q 6 (by decide), q 7 (by decide), show σ' p = σ p from q 0 (by decide)]
    exact hq
  refine ⟨zGood_eq (fun r hr => h _ (by omega)) hg, V', ⟨?_, ?_, ?_, ?_⟩, fun k hk => ?_, ?_, ?_, ?_, ⟨mr 34 (by decide) (by decide) hM.1, fun j hj => mr _ (by omega) (by omega) (hM.2 j hj)⟩, ?_, ?_⟩
  · rw [h 22 (by decide), h 23 (by decide)]; exact E.lay hv l1
  · intro k hk
    rw [h 1 (by decide)] at hk
    rw [h 23 (by decide), h 24 (by decide), h 25 (by decide), h 26 (by decide), E.be hv hk, E.bs hv 12 k hk, E.ok hv hk]
    exact l2 k hk
  · rw [h 26 (by decide)]; exact l3
  · rw [h 21 (by decide), h 1 (by decide), h 7 (by decide), h 23 (by decide)]; exact l4
  · rw [h 1 (by decide)] at hk
    have t := hK k hk
    unfold zKk at *
    rw [h 3 (by decide), h 26 (by decide), h 25 (by decide), h 24 (by decide), h 23 (by decide), h 22 (by decide), h 8 (by decide)]
    exact t
  · unfold zStood at *
    rw [h 33 (by decide), h 2 (by decide), h 1 (by decide), h 44 (by decide)]
    exact ⟨hs.1, E.stand hs.2⟩
  · unfold zOrd
    rw [h 1 (by decide), h 10 (by decide), h 43 (by decide)]; exact hor
  · rw [h 1 (by decide), h 10 (by decide), h 43 (by decide)]
    intro i hi
    have o := hor.in hg i hi
    have hq := hF i hi
    rw [h _ (by omega)]
    exact ⟨hq.1, fil _ (by omega) (by omega) hq.2⟩
  · rw [h 33 (by decide), h 1 (by decide), h 10 (by decide), h 21 (by decide), h 43 (by decide)]; exact h7
  · rw [h 34 (by decide)]
    rcases hN with z | z
    · exact Or.inl z
    · exact Or.inr (fil 34 (by decide) (by decide) z)
theorem zMr_cg {σ σ' : zSt} {p : Nat} (h : ∀ r, r < 8 → σ' (p + r) = σ (p + r)) (hq : zMr σ p) : zMr σ' p := by
  unfold zMr at *
  rw [h 1 (by decide), h 2 (by decide), h 3 (by decide), h 4 (by decide), h 5 (by decide), h 6 (by decide), h 7 (by decide), show σ' p = σ p from h 0 (by decide)]
  exact hq
/-! THE CLASS between two calls -/
def zCl (σ : zSt) : Prop := zOn σ ∧ zRs (σ 93) ∧ zFine (zSv σ 1) ∧ zGood σ 11 ∧ (∀ k, k < 12 → σ 32 k = 0 ∨ σ 32 k = 1) ∧ (0 ≤ σ 95 1 ∧ σ 95 1 < 8) ∧ (0 ≤ σ 95 2 ∧ σ 95 2 ≤ 8)
/-- an act refused: only the draft has changed, and the status -/
def zCr (σ σ' : zSt) (w : Int) : Prop := σ' 0 10 = w ∧ (∀ j, j ≠ 10 → σ' 0 j = σ 0 j) ∧ (∀ a, a ≠ 0 → (a < 11 ∨ (21 ≤ a ∧ a < 27) ∨ 33 ≤ a) → σ' a = σ a) ∧ zGood σ' 11 ∧ ∀ k, k < 12 → σ' 32 k = 0 ∨ σ' 32 k = 1
/-- an act done: the Show is S', the elder one is kept -/
def zDid (σ σ' S' : zSt) : Prop := σ' 0 10 = 0 ∧ (∀ j, j ≠ 10 → σ' 0 j = σ 0 j) ∧ (∀ a, (a = 93 ∨ a = 94 ∨ 177 ≤ a) → σ' a = σ a) ∧ zOn σ' ∧ zSame2 (zSv σ' 1) S' ∧ zGood σ' 11 ∧ (∀ k, k < 12 → σ' 32 k = 0 ∨ σ' 32 k = 1) ∧
  zSame2 (zSv σ' (97 + 10 * (σ 95 1).toNat)) (zSv σ 1) ∧ (∀ i, i < 8 → i ≠ (σ 95 1).toNat → ∀ r, r < 10 → σ' (97 + 10 * i + r) = σ (97 + 10 * i + r)) ∧ σ' 95 1 = (σ 95 1 + 1) % 8 ∧ σ' 95 2 = min (σ 95 2 + 1) 8
def zAcC (σ σ' : zSt) (a w v : Int) (S' : zSt) : Prop := (w ≠ 0 ∧ a = -1 ∧ zCr σ σ' w) ∨ (w = 0 ∧ a = v ∧ zDid σ σ' S')
theorem zFin.lr {S : zSt} (h : zFin S) : 0 ≤ zlast S ∧ zlast S ≤ 800000000 := by
  unfold zlast
  have hN := h.1.1
  by_cases z : S 0 0 = 0
  · rw [if_pos z]; decide
  · have hz : zN S = (S 0 0).toNat := rfl
    rw [if_neg z]
    have L := h.2.1.lay
    obtain ⟨⟨d, r, hv⟩, -⟩ := h.2.1
    have b := (zLay_bound hv L (k := 0) (by omega)).2
    have s6 := (hv.2.2.1 0 (by omega)).1.2.2.2.2
    omega
