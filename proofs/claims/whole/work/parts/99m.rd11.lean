/-! WHAT HOLDS WHILE READING: a new clip, a clip closed, each step -/
section INV
variable {b : Nat → Int} {n0 : Nat} {A C : zAb}
theorem zpN_inv {k : Nat} (hq : A.q ≤ n0) (hk : A.D 0 0 = (k : Int) + 1) (hG : zGood A.D 0) (hop : -1 ≤ A.op ∧ A.op < A.D 0 0) (hnm : ∀ i, i < k → (0 < A.nm i ∧ A.nm i < 1099511627776) ∧ 0 ≤ A.sn i ∧ A.sn i < 1099511627776) (h : zpN b n0 A k = .inr C) : zAi n0 C ∧ C = zAm (znx b n0 A.q) A.D (zu A.nm k (zTs b n0 A.q)) (zu A.sn k 0) 0 A.op (k : Int) ∧ ∀ i, i < k → A.nm i ≠ zTs b n0 A.q := by
  unfold zpN at h
  by_cases c1 : zisn b n0 A.q
  · rw [if_neg (fun y => y c1)] at h
    by_cases c2 : ∃ i, i < k ∧ A.nm i = zTs b n0 A.q
    · rw [if_pos c2] at h; cases h
    · rw [if_neg c2] at h
      have e := (Sum.inr.inj h).symm
      have sw := zTs_wr c1.1 c1.2.1
      refine ⟨?_, e, fun i hi y => c2 ⟨i, hi, y⟩⟩
      rw [e]
      refine ⟨(znx_r hq).2, hG, hop, ⟨by show (-1 : Int) ≤ (k : Int); omega, by show (k : Int) < A.D 0 0; omega⟩, fun j hj => ?_, by show 0 < 8192; decide⟩
      show (0 < zu A.nm k (zTs b n0 A.q) j ∧ zu A.nm k (zTs b n0 A.q) j < 1099511627776) ∧ 0 ≤ zu A.sn k 0 j ∧ zu A.sn k 0 j < 1099511627776
      have hj2 : j < (A.D 0 0).toNat := hj
      by_cases e : j = k
      · subst e; rw [zu_eq, zu_eq]; omega
      · rw [zu_ne e, zu_ne e]; exact hnm j (by omega)
  · rw [if_pos c1] at h; cases h
theorem zpC_inv (hA : zAi n0 A) (hv : zAv A) (hs : zN A.D = 0 ∨ A.op ≠ -1) (h : zpC b n0 A = .inr C) : zAi n0 C ∧ zAv C := by
  have hpar := hv.par
  have hN : zN A.D = (A.D 0 0).toNat := rfl
  have hD0 : 0 ≤ A.D 0 0 := hA.2.1.1.1
  unfold zpC at h
  by_cases c1 : 0 ≤ zkw b n0 A.q ∧ zkw b n0 A.q ≤ 2
  · rw [if_neg (fun y => y c1)] at h
    by_cases c2 : 12 ≤ A.D 0 0 ∨ 4 < zdep (A.D 2) 12 A.op
    · rw [if_pos c2] at h; cases h
    · rw [if_neg c2] at h
      obtain ⟨a1, a2, a3, a4, a5, a6⟩ := hA
      have pr : 0 ≤ (if A.op = -1 then 0 else (zcnt (fun j => decide (A.D 2 j = A.op)) (A.D 0 0).toNat : Int)) ∧ (if A.op = -1 then 0 else (zcnt (fun j => decide (A.D 2 j = A.op)) (A.D 0 0).toNat : Int)) ≤ 12 := by
        split
        · decide
        · exact zcnt_12 (by omega)
      obtain ⟨r0, r1, r2, r3, r4, r5, r6, r7, r8⟩ := zApp_r A.D (zkw b n0 A.q) A.op (if A.op = -1 then 0 else (zcnt (fun j => decide (A.D 2 j = A.op)) (A.D 0 0).toNat : Int))
      have er0 : (zApp A.D 0 (zkw b n0 A.q) A.op (if A.op = -1 then 0 else (zcnt (fun j => decide (A.D 2 j = A.op)) (A.D 0 0).toNat : Int))) 0 0 = A.D 0 0 + 1 := by rw [r0, zu_eq]
      have eN : zN (zApp A.D 0 (zkw b n0 A.q) A.op (if A.op = -1 then 0 else (zcnt (fun j => decide (A.D 2 j = A.op)) (A.D 0 0).toNat : Int))) = zN A.D + 1 := by unfold zN; rw [er0]; omega
      obtain ⟨i1, i2, i3⟩ := zpN_inv (A := zAm (znx b n0 A.q) (zApp A.D 0 (zkw b n0 A.q) A.op (if A.op = -1 then 0 else (zcnt (fun j => decide (A.D 2 j = A.op)) (A.D 0 0).toNat : Int))) A.nm A.sn A.td A.op A.mk) (k := (A.D 0 0).toNat) (znx_r a1).2 (by show (zApp A.D 0 (zkw b n0 A.q) A.op (if A.op = -1 then 0 else (zcnt (fun j => decide (A.D 2 j = A.op)) (A.D 0 0).toNat : Int))) 0 0 = (((A.D 0 0).toNat : Nat) : Int) + 1; omega) (a2.app (by omega) c1 ⟨by omega, by omega⟩ pr) (by show -1 ≤ A.op ∧ A.op < (zApp A.D 0 (zkw b n0 A.q) A.op (if A.op = -1 then 0 else (zcnt (fun j => decide (A.D 2 j = A.op)) (A.D 0 0).toNat : Int))) 0 0; omega) (fun i hi => a5 i hi) h
      refine ⟨i1, ?_⟩
      rw [i2]
      obtain ⟨h1, h2, h3, h4, h5, h6, h7⟩ := hv
      have he : ∀ j, j < zN A.D → zu (A.D 2) (zN A.D) A.op j = A.D 2 j := fun j hj => zu_ne (by omega)
      have hx : A.op < (zN A.D : Int) := by omega
      refine ⟨?_, ?_, ?_, ?_, ?_, ?_, ?_⟩
      · show zFin (zneu (zApp A.D 0 (zkw b n0 A.q) A.op (if A.op = -1 then 0 else (zcnt (fun j => decide (A.D 2 j = A.op)) (A.D 0 0).toNat : Int))))
        rw [zneu_app hD0]
        have g := zApp_fin h1 (x := zkw b n0 A.q) (y := A.op) (by rw [zneu_N]; omega) c1 (by rw [zneu_N]; exact h3) (by
          rw [zneu_N, zneu_o _ (by decide)]
          intro y
          have z : A.op ≠ -1 := by rcases hs with w | w; omega; exact w
          exact ⟨by omega, by omega, h2 z⟩) (by rw [zneu_o _ (by decide)]; omega)
        rw [zneu_N, zneu_o _ (by decide)] at g
        exact g
      · show A.op ≠ -1 → (zApp A.D 0 (zkw b n0 A.q) A.op (if A.op = -1 then 0 else (zcnt (fun j => decide (A.D 2 j = A.op)) (A.D 0 0).toNat : Int))) 1 A.op.toNat ≠ 0
        intro y
        rw [r1, zu_ne (by omega)]; exact h2 y
      · show zN (zApp A.D 0 (zkw b n0 A.q) A.op (if A.op = -1 then 0 else (zcnt (fun j => decide (A.D 2 j = A.op)) (A.D 0 0).toNat : Int))) = 0 → A.op = -1
        omega
      · show (((A.D 0 0).toNat : Nat) : Int) ≠ -1 → (zApp A.D 0 (zkw b n0 A.q) A.op (if A.op = -1 then 0 else (zcnt (fun j => decide (A.D 2 j = A.op)) (A.D 0 0).toNat : Int))) 2 (((A.D 0 0).toNat : Nat) : Int).toNat = A.op ∧ (((A.D 0 0).toNat : Nat) : Int) + 1 = (zApp A.D 0 (zkw b n0 A.q) A.op (if A.op = -1 then 0 else (zcnt (fun j => decide (A.D 2 j = A.op)) (A.D 0 0).toNat : Int))) 0 0
        intro _
        refine ⟨?_, by omega⟩
        rw [Int.toNat_natCast, r2, ← hN, zu_eq]
      · intro j hj
        obtain ⟨j1, j2, j3⟩ : zunb (zApp A.D 0 (zkw b n0 A.q) A.op (if A.op = -1 then 0 else (zcnt (fun j => decide (A.D 2 j = A.op)) (A.D 0 0).toNat : Int))) j := hj
        show 0 ≤ (zApp A.D 0 (zkw b n0 A.q) A.op (if A.op = -1 then 0 else (zcnt (fun j => decide (A.D 2 j = A.op)) (A.D 0 0).toNat : Int))) 2 j ∧ (zApp A.D 0 (zkw b n0 A.q) A.op (if A.op = -1 then 0 else (zcnt (fun j => decide (A.D 2 j = A.op)) (A.D 0 0).toNat : Int))) 1 ((zApp A.D 0 (zkw b n0 A.q) A.op (if A.op = -1 then 0 else (zcnt (fun j => decide (A.D 2 j = A.op)) (A.D 0 0).toNat : Int))) 2 j).toNat = 1 ∧ zOpn ((zApp A.D 0 (zkw b n0 A.q) A.op (if A.op = -1 then 0 else (zcnt (fun j => decide (A.D 2 j = A.op)) (A.D 0 0).toNat : Int))) 2) A.op ((zApp A.D 0 (zkw b n0 A.q) A.op (if A.op = -1 then 0 else (zcnt (fun j => decide (A.D 2 j = A.op)) (A.D 0 0).toNat : Int))) 2 j)
        rw [r4] at j2; rw [r5] at j3
        have w : j ≠ zN A.D := fun y => by rw [y, zu_eq] at j2; exact absurd j2 (by decide)
        rw [zu_ne w] at j2 j3
        obtain ⟨g1, g2, g3⟩ := h5 j ⟨by omega, j2, j3⟩
        have pj := hpar j (by omega)
        rw [r2, he j (by omega), r1, zu_ne (by omega)]
        exact ⟨g1, g2, (zOpn_cg hpar he hx).mpr g3⟩
      · intro i j hi hj
        have hi : i < zN (zApp A.D 0 (zkw b n0 A.q) A.op (if A.op = -1 then 0 else (zcnt (fun j => decide (A.D 2 j = A.op)) (A.D 0 0).toNat : Int))) := hi
        have hj : j < zN (zApp A.D 0 (zkw b n0 A.q) A.op (if A.op = -1 then 0 else (zcnt (fun j => decide (A.D 2 j = A.op)) (A.D 0 0).toNat : Int))) := hj
        show zu A.nm (A.D 0 0).toNat (zTs b n0 (znx b n0 A.q)) i = zu A.nm (A.D 0 0).toNat (zTs b n0 (znx b n0 A.q)) j → i = j
        by_cases wi : i = (A.D 0 0).toNat
        · by_cases wj : j = (A.D 0 0).toNat
          · intro _; omega
          · rw [wi, zu_eq, zu_ne wj]; intro y; exact absurd y.symm (i3 j (by omega))
        · by_cases wj : j = (A.D 0 0).toNat
          · rw [wj, zu_eq, zu_ne wi]; intro y; exact absurd y (i3 i (by omega))
          · rw [zu_ne wi, zu_ne wj]; exact h6 i j (by omega) (by omega)
      · intro j hj
        have hj : j < zN (zApp A.D 0 (zkw b n0 A.q) A.op (if A.op = -1 then 0 else (zcnt (fun j => decide (A.D 2 j = A.op)) (A.D 0 0).toNat : Int))) := hj
        show zby ((zApp A.D 0 (zkw b n0 A.q) A.op (if A.op = -1 then 0 else (zcnt (fun j => decide (A.D 2 j = A.op)) (A.D 0 0).toNat : Int))) 4 j) = true → zOpn ((zApp A.D 0 (zkw b n0 A.q) A.op (if A.op = -1 then 0 else (zcnt (fun j => decide (A.D 2 j = A.op)) (A.D 0 0).toNat : Int))) 2) A.op ((zApp A.D 0 (zkw b n0 A.q) A.op (if A.op = -1 then 0 else (zcnt (fun j => decide (A.D 2 j = A.op)) (A.D 0 0).toNat : Int))) 2 j) → (zApp A.D 0 (zkw b n0 A.q) A.op (if A.op = -1 then 0 else (zcnt (fun j => decide (A.D 2 j = A.op)) (A.D 0 0).toNat : Int))) 5 j = -1
        rw [r4, r5, r2]
        by_cases w : j = zN A.D
        · rw [w, zu_eq]; intro y; exact absurd y (by decide)
        · rw [zu_ne w, zu_ne w, zu_ne w]
          intro y z
          exact h7 j (by omega) y ((zOpn_cg hpar he hx).mp z)
  · rw [if_pos c1] at h; cases h
theorem zpX_inv (hA : zAi n0 A) (hv : zAv A) (hm : A.mk = -1) (hs : A.op ≠ -1) (h : zpX b n0 A = .inr C) : zAi n0 C ∧ zAv C := by
  have hpar := hv.par
  have htr := hv.tree
  have hkn := hv.knd
  have hN : zN A.D = (A.D 0 0).toNat := rfl
  obtain ⟨o, eo⟩ := Int.eq_ofNat_of_zero_le (show 0 ≤ A.op by have := hA.2.2.1.1; omega)
  have ob := hA.2.2.1
  have oN : o < zN A.D := by omega
  have to := htr o oN
  have eo2 : A.op.toNat = o := by omega
  have p2 : A.D 2 o ≠ -1 → A.D 1 (A.D 2 o).toNat ≠ 0 := fun y => hkn o oN (by omega)
  unfold zpX at h
  by_cases c1 : A.D 1 A.op.toNat = 1
  · rw [if_pos c1] at h
    by_cases c2 : zbad A
    · rw [if_pos c2] at h; cases h
    · rw [if_neg c2] at h
      by_cases c3 : zRng (zAD A (zbd A (zN A.D)))
      · rw [if_pos c3] at h; cases h
      · rw [if_neg c3] at h
        have e := (Sum.inr.inj h).symm
        rw [e, eo2]
        have e0 : zbd A (zN A.D) 0 = A.D 0 := zbd_oth A _ (by decide)
        have e1 : zbd A (zN A.D) 1 = A.D 1 := zbd_oth A _ (by decide)
        have e2 : zbd A (zN A.D) 2 = A.D 2 := zbd_oth A _ (by decide)
        have e4 : zbd A (zN A.D) 4 = A.D 4 := zbd_oth A _ (by decide)
        have eN : zN (zbd A (zN A.D)) = zN A.D := by show (zbd A (zN A.D) 0 0).toNat = (A.D 0 0).toNat; rw [e0]
        obtain ⟨a1, a2, a3, a4, a5, a6⟩ := hA
        obtain ⟨h1, h2, h3, h4, h5, h6, h7⟩ := hv
        have hun : ∀ j, j < zN A.D → A.D 2 j = A.op → zby (A.D 4 j) = true → A.D 5 j = -1 := fun j hj y z => h7 j hj z (by rw [y]; exact zOpn_rf _ _)
        refine ⟨⟨(znx_r a1).2, zbd_good a2, ⟨by show -1 ≤ A.D 2 o; omega, by show A.D 2 o < zbd A (zN A.D) 0 0; rw [e0]; omega⟩, ?_, ?_, a6⟩, ?_, ?_, ?_, ?_, ?_, ?_, ?_⟩
        · show -1 ≤ A.mk ∧ A.mk < zbd A (zN A.D) 0 0; rw [e0]; exact a4
        · intro i hi
          have hi : i < (zbd A (zN A.D) 0 0).toNat := hi
          rw [e0] at hi; exact a5 i hi
        · exact zneu_bd h1 a2 c2 c3 (by omega) c1 hun (zN A.D) (Nat.le_refl _)
        · show A.D 2 o ≠ -1 → zbd A (zN A.D) 1 (A.D 2 o).toNat ≠ 0
          rw [e1]; exact p2
        · show zN (zbd A (zN A.D)) = 0 → _
          rw [eN]; intro y; omega
        · show A.mk ≠ -1 → _
          intro y; exact absurd hm y
        · intro j hj
          obtain ⟨j1, j2, j3⟩ : zunb (zbd A (zN A.D)) j := hj
          show 0 ≤ zbd A (zN A.D) 2 j ∧ zbd A (zN A.D) 1 (zbd A (zN A.D) 2 j).toNat = 1 ∧ zOpn (zbd A (zN A.D) 2) (A.D 2 o) (zbd A (zN A.D) 2 j)
          rw [eN] at j1; rw [e4] at j2; rw [e1, e2]
          by_cases w : A.D 2 j = A.op
          · rw [zbd_5, if_pos ⟨j1, w, j2⟩] at j3
            exact absurd ⟨j, j1, w, j2, Or.inl j3⟩ c2
          · rw [zbd_5, if_neg (fun y => w y.2.1)] at j3
            obtain ⟨g1, g2, g3⟩ := h5 j ⟨j1, j2, j3⟩
            refine ⟨g1, g2, ?_⟩
            rcases zOpn_out (by omega) g3 with z | z
            · exact absurd z w
            · rw [eo2] at z; exact z
        · intro i j hi hj
          have hi : i < zN (zbd A (zN A.D)) := hi
          have hj : j < zN (zbd A (zN A.D)) := hj
          rw [eN] at hi hj; exact h6 i j hi hj
        · intro j hj
          have hj : j < zN (zbd A (zN A.D)) := hj
          rw [eN] at hj
          show zby (zbd A (zN A.D) 4 j) = true → zOpn (zbd A (zN A.D) 2) (A.D 2 o) (zbd A (zN A.D) 2 j) → zbd A (zN A.D) 5 j = -1
          rw [e4, e2]
          intro y z
          have le := zOpn_le hpar (by omega) z
          rw [zbd_5, if_neg (fun w => by have := w.2.1; omega)]
          exact h7 j hj y (zOpn_in (by omega) (by rw [eo2]; exact z))
  · rw [if_neg c1] at h
    have e := (Sum.inr.inj h).symm
    rw [e, eo2]
    obtain ⟨a1, a2, a3, a4, a5, a6⟩ := hA
    obtain ⟨h1, h2, h3, h4, h5, h6, h7⟩ := hv
    refine ⟨⟨(znx_r a1).2, a2, ⟨by show -1 ≤ A.D 2 o; omega, by show A.D 2 o < A.D 0 0; omega⟩, a4, a5, a6⟩, h1, p2, ?_, ?_, ?_, h6, ?_⟩
    · show zN A.D = 0 → _
      intro y; omega
    · show A.mk ≠ -1 → _
      intro y; exact absurd hm y
    · intro j hj
      obtain ⟨g1, g2, g3⟩ := h5 j hj
      refine ⟨g1, g2, ?_⟩
      rcases zOpn_out (by omega) g3 with z | z
      · rw [z] at g2; exact absurd g2 c1
      · rw [eo2] at z; exact z
    · intro j hj y z
      exact h7 j hj y (zOpn_in (by omega) (by rw [eo2]; exact z))
end INV
