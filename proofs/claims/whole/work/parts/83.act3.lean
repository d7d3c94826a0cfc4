/-- undone: the Show is the one kept last -/
def zUnd (σ σ' : zSt) : Prop := σ' 0 10 = 0 ∧ (∀ j, j ≠ 10 → σ' 0 j = σ 0 j) ∧ (∀ a, ((11 ≤ a ∧ a < 21) ∨ (27 ≤ a ∧ a < 33) ∨ (93 ≤ a ∧ a ≠ 95)) → σ' a = σ a) ∧ zOn σ' ∧ zSame2 (zSv σ' 1) (zSv σ (97 + 10 * ((σ 95 1 + 7) % 8).toNat)) ∧ σ' 95 1 = (σ 95 1 + 7) % 8 ∧ σ' 95 2 = σ 95 2 - 1
theorem zBack_f {τ υ : zSt} (hK : zBack τ υ) : (∀ a, (a = 0 ∨ 11 ≤ a) → a ≠ 95 → υ a = τ a) ∧ zSame2 (zSv υ 1) (zSv τ (97 + 10 * ((τ 95 1 + 7) % 8).toNat)) ∧ υ 95 1 = (τ 95 1 + 7) % 8 ∧ υ 95 2 = τ 95 2 - 1 := by
  obtain ⟨ρ, k1, k2⟩ := hK
  have o : ∀ a, a ≠ 95 → υ a = ρ a := fun a ha => by rw [k2, zs_other ha]
  have f := k1.2.2.2.2.2
  refine ⟨fun a h1 ha => by rw [o a ha, f a (by omega), zs_other ha], ?_, ?_, ?_⟩
  · refine (zSame2.of (fun r hr => o (1 + r) (by omega))).tr (k1.sm.tr (zSame2.of (fun r hr => ?_)))
    show zs τ 95 1 _ (97 + 10 * ((τ 95 1 + 7) % 8).toNat + r) = τ (97 + 10 * ((τ 95 1 + 7) % 8).toNat + r)
    rw [zs_other (by omega)]
  · rw [k2, zs_ne (by decide), f 95 (by decide), zs_eq]
  · rw [k2, zs_eq]
theorem c_Nc_undo {G : zG} {n : Nat} {σ : zSt} (hn : 189 ≤ n) (hc0 : zCl σ) (hK0 : σ 95 2 ≠ 0 → zFin (zSv σ (97 + 10 * ((σ 95 1 + 7) % 8).toNat))) : Gm G y_Nc_undo m_Nc_undo 5 0 0 [vr G 0] n SH σ (zI n SH (fun a σ' => (σ 95 2 = 0 ∧ a = -1 ∧ zCr σ σ' 8) ∨ (σ 95 2 ≠ 0 ∧ a = σ 95 2 - 1 ∧ zUnd σ σ'))) := by
  refine g_enter (L := [(0, _)]) (by decide) rfl rfl rfl (Nat.le_of_ble_eq_true rfl) (fun X => ?_)
  obtain ⟨ho, hR, hf, hD, hO, h951, h952⟩ := id hc0
  have hc := ho.1.1
  have hN : zN (zSv σ 1) = (σ 1 0).toNat := rfl
  have hg := ho.1.2.1
  
  refine g_aload_n (i := 0) (by decide +kernel) rfl ?_
  refine g_getr f_Nc_50 (by decide +kernel) (by omega) rfl rfl ?_
  refine g_geti f_Nc_202 (by decide +kernel) (by omega) rfl rfl ?_
  refine g_if_ne (off := 10) (tgt := 17) (by decide +kernel) (by decide) ⟨by omega, by omega⟩ (fun h7 => ?_) (fun h7 => ?_)
  · refine g_aload_n (i := 0) (by decide +kernel) rfl ?_
    refine g_getr f_Nc_50 (by decide +kernel) (by omega) rfl rfl ?_
    refine g_aload_n (i := 0) (by decide +kernel) rfl ?_
    refine g_getr f_Nc_10 (by decide +kernel) (by omega) rfl rfl ?_
    refine g_cVV (st := _) (c_Pa_bringBack hn h951 h952) k_Pa_bringBack l_Nc_205 (by decide +kernel) (by omega) rfl rfl rfl rfl (Nat.le_of_ble_eq_true rfl) (by decide) ⟨by decide, by decide⟩ ?_
    rintro υ hB
    obtain ⟨u1, u2, u3, u4⟩ := zBack_f hB
    have ff := u2.fin (hK0 h7)
    obtain ⟨⟨d, r, vl⟩, -⟩ := ff.2.1
    refine g_aload_n (i := 0) (by decide +kernel) rfl ?_
    refine g_getr f_Nc_34 (by decide +kernel) (by omega) rfl rfl ?_
    refine g_cVV (st := _) (c_Sg_prepare hn (zGood_v.mp ff.1) vl (fun k hk => (ff.2.2 k hk).1) (by rw [u1 26 (by decide) (by decide)]; exact ho.2.2.1.2.2.1) ⟨zMr_cg (fun r hr => u1 _ (by omega) (by omega)) ho.2.2.2.2.2.2.2.1.1, fun j hj => zMr_cg (fun r hr => u1 _ (by omega) (by omega)) (ho.2.2.2.2.2.2.2.1.2 j hj)⟩) k_Sg_prepare l_Nc_87 (by decide +kernel) (by omega) rfl rfl rfl rfl (Nat.le_of_ble_eq_true rfl) (by decide) ⟨by decide, by decide⟩ ?_
    rintro ψ hP
    have e95 : ψ 95 2 = σ 95 2 - 1 := by rw [hP.1 95 (by decide)]; exact u4
    refine g_aload_n (i := 0) (by decide +kernel) rfl ?_
    refine g_aload_n (i := 0) (by decide +kernel) rfl ?_
    refine g_getr f_Nc_50 (by decide +kernel) (by omega) rfl rfl ?_
    refine g_geti f_Nc_202 (by decide +kernel) (by omega) rfl rfl ?_
    refine g_cVI (st := _) (c_Nc_give hn) k_Nc_give l_Nc_208 (by decide +kernel) (by omega) rfl rfl rfl rfl (Nat.le_of_ble_eq_true rfl) (by decide) ⟨by decide, by decide⟩ ?_
    rintro a9 σ9 ⟨ea9, hσ9⟩
    obtain rfl := ea9.symm
    subst hσ9
    refine g_retI (by decide +kernel) rfl (Or.inl rfl) ⟨by decide, by decide⟩ ?_
    refine Or.inr ⟨h7, e95, zs_eq _ _ _ _, fun j hj => ?_, fun a ha => ?_, ?_, ?_, ?_, ?_⟩
    · rw [zs_ne (fun y => hj y.2), hP.1 0 (by decide), u1 0 (by decide) (by decide)]
    · rw [zs_other (by omega), hP.1 a (by omega), u1 a (by omega) (by omega)]
    · refine zOn_st ⟨zGood_eq (fun r hr => hP.1 _ (by omega)) (zGood_v.mp ff.1), ?_, hP.2⟩
      have E : zEqv (zSv υ 1) (zSv ψ 1) := zEqv.of (fun r hr => hP.1 (1 + r) (by omega))
      exact ff.2.1.eqv E
    · refine (zSame2.of (fun r hr => ?_)).tr u2
      show zs ψ 0 10 0 (1 + r) = υ (1 + r)
      rw [zs_other (by omega), hP.1 _ (by omega)]
    · rw [zs_other (by decide), hP.1 95 (by decide)]; exact u3
    · rw [zs_other (by decide)]; exact e95
  · refine g_aload_n (i := 0) (by decide +kernel) rfl ?_
    refine g_bipush (a := 8) (by decide +kernel) (by decide) ?_
    refine g_cVI (st := _) (c_Nc_refuse hn) k_Nc_refuse l_Nc_97 (by decide +kernel) (by omega) rfl rfl rfl rfl (Nat.le_of_ble_eq_true rfl) (by decide) ⟨by decide, by decide⟩ ?_
    rintro a9 σ9 ⟨ea9, hσ9⟩
    obtain rfl := ea9.symm
    subst hσ9
    refine g_retI (by decide +kernel) rfl (Or.inl rfl) ⟨by decide, by decide⟩ ?_
    exact Or.inl ⟨h7, rfl, zCr_no hc0⟩
theorem zShift_sm {σ τ υ : zSt} {k : Nat} {p : Int} (hN : (σ 1 0).toNat ≤ 12) (hk : k < (σ 1 0).toNat) (hs : zSame2 (zSv τ 11) (zSv σ 1)) (h : zShift τ υ 11 k p) : zSame2 (zSv υ 11) (zOpV (zSv σ 1) k p) := by
  obtain ⟨h1, h2, h3, h4⟩ := h
  have e0 : τ 11 0 = σ 1 0 := hs.1.1
  have o : ∀ r, r ≠ 3 → zOpV (zSv σ 1) k p r = zSv σ 1 r := fun r hr => zrow_ne hr
  have e3 : zOpV (zSv σ 1) k p 3 = fun j => if j = k then p else if j < (σ 1 0).toNat ∧ σ 3 j = σ 3 k then zsp (σ 4 k) p (σ 4 j) else σ 4 j := zrow_eq _ _ _
  have q : ∀ r, r ≠ 3 → υ (11 + r) = τ (11 + r) := fun r hr => h1 _ (by omega)
  refine ⟨⟨?_, ?_⟩, fun r a b j hj => ?_, fun j hj => ?_, fun j hj => ?_⟩
  · rw [o 0 (by decide)]; show υ (11 + 0) 0 = _; rw [q 0 (by decide)]; exact hs.1.1
  · rw [o 0 (by decide)]; show υ (11 + 0) 8 = _; rw [q 0 (by decide)]; exact hs.1.2
  · by_cases z : r = 3
    · subst z
      rw [e3]
      show υ (11 + 3) j = if j = k then p else if j < (σ 1 0).toNat ∧ σ 3 j = σ 3 k then zsp (σ 4 k) p (σ 4 j) else σ 4 j
      have p2 : ∀ i, i < 12 → τ (11 + 2) i = σ 3 i := fun i hi => hs.2.1 2 (by decide) (by decide) i hi
      have p3 : ∀ i, i < 12 → τ (11 + 3) i = σ 4 i := fun i hi => hs.2.1 3 (by decide) (by decide) i hi
      by_cases zk : j = k
      · rw [if_pos zk, zk]; exact h2
      · rw [if_neg zk]
        by_cases zn : j < (σ 1 0).toNat
        · rw [h3 j (by rw [e0]; exact zn) zk, p2 j hj, p2 k (by omega), p3 j hj, p3 k (by omega)]
          by_cases zz : σ 3 j = σ 3 k
          · rw [if_pos zz, if_pos ⟨zn, zz⟩]
          · rw [if_neg zz, if_neg (fun y => zz y.2)]
        · rw [if_neg (fun y => zn y.1), h4 j (by rw [e0]; omega) zk]; exact p3 j hj
    · rw [o r z]; show υ (11 + r) j = _; rw [q r z]; exact hs.2.1 r a b j hj
  · rw [o 7 (by decide)]; show υ (11 + 7) j = _; rw [q 7 (by decide)]; exact hs.2.2.1 j hj
  · rw [o 8 (by decide), o 9 (by decide)]; show υ (11 + 8) j = _ ∧ υ (11 + 9) j = _; rw [q 8 (by decide), q 9 (by decide)]; exact hs.2.2.2 j hj
theorem zShift.df {σ τ υ : zSt} {k : Nat} {p : Int} (hf : zDf σ τ) (h : zShift τ υ 11 k p) : zDf σ υ := fun a ha => by rw [h.1 a (by omega)]; exact hf a ha
theorem c_Nc_move {G : zG} {n : Nat} {σ : zSt} {c p : Int} (hn : 189 ≤ n) (hc0 : zCl σ) (z1 : zr c) (z2 : zr p) : Gm G y_Nc_move m_Nc_move 6 0 0 [vr G 0, vi c, vi p] n SH σ (zI n SH (fun a σ' => zAcC σ σ' a (if p < 0 ∨ ((0 ≤ c ∧ c < σ 1 0) ∧ c ≠ 0 ∧ (zcnt (fun j => decide (σ 3 j = σ 3 c.toNat)) (σ 1 0).toNat : Int) ≤ p) then 1 else if ¬ (0 ≤ c ∧ c < σ 1 0) then 2 else if c = 0 then 5 else if p = σ 4 c.toNat then 4 else if 1999 < zlast (zOpV (zSv σ 1) c.toNat p) then 7 else 0) (σ 4 c.toNat) (zOpV (zSv σ 1) c.toNat p))) := by
  refine g_enter (L := [(0, _), (1, _), (2, _)]) (by decide) rfl rfl rfl (Nat.le_of_ble_eq_true rfl) (fun X => ?_)
  obtain ⟨ho, hR, hf, hD, hO, h951, h952⟩ := id hc0
  have hc := ho.1.1
  have hN : zN (zSv σ 1) = (σ 1 0).toNat := rfl
  have hg := ho.1.2.1
  obtain ⟨z1a, z1b⟩ := id z1
  obtain ⟨z2a, z2b⟩ := id z2
  have J45 : 0 ≤ p → (((0 ≤ c ∧ c < σ 1 0) ∧ c ≠ 0) → p < (zcnt (fun j => decide (σ 3 j = σ 3 c.toNat)) (σ 1 0).toNat : Int)) → Go G X m_Nc_move (6, 0, 0, 0, 0) n SH σ 45 [(0, vr G 0), (1, vi c), (2, vi p)] [] (zI n SH (fun a σ' => zAcC σ σ' a (if p < 0 ∨ ((0 ≤ c ∧ c < σ 1 0) ∧ c ≠ 0 ∧ (zcnt (fun j => decide (σ 3 j = σ 3 c.toNat)) (σ 1 0).toNat : Int) ≤ p) then 1 else if ¬ (0 ≤ c ∧ c < σ 1 0) then 2 else if c = 0 then 5 else if p = σ 4 c.toNat then 4 else if 1999 < zlast (zOpV (zSv σ 1) c.toNat p) then 7 else 0) (σ 4 c.toNat) (zOpV (zSv σ 1) c.toNat p))) := by
    intro hp0 hJ
    refine g_aload_n (i := 0) (by decide +kernel) rfl ?_
    refine g_getr f_Nc_10 (by decide +kernel) (by omega) rfl rfl ?_
    refine g_iload_n (i := 1) (by decide +kernel) rfl ?_
    refine g_cVI (st := _) (c_Sh_has (b := 1) hn sh_1 z1 ⟨hc.1, hc.2.1⟩) k_Sh_has l_Nc_117 (by decide +kernel) (by omega) rfl rfl rfl rfl (Nat.le_of_ble_eq_true rfl) (by decide) ⟨by decide, by decide⟩ ?_
    rintro a σ9 ⟨ea, hσ⟩
    obtain rfl := hσ.symm
    subst ea
    refine g_if_ne (off := 9) (tgt := 62) (by decide +kernel) (by decide) zbr (fun h53 => ?_) (fun h53 => ?_)
    · have h53 := zb1.mp h53
      refine g_iload_n (i := 1) (by decide +kernel) rfl ?_
      refine g_if_ne (off := 9) (tgt := 72) (by decide +kernel) (by decide) ⟨by omega, by omega⟩ (fun h63 => ?_) (fun h63 => ?_)
      · have hJ2 := hJ ⟨h53, by omega⟩
        have zl := zcnt_le (fun j => decide (σ 3 j = σ 3 c.toNat)) (σ 1 0).toNat
        have kr4 : 0 ≤ σ 4 c.toNat ∧ σ 4 c.toNat ≤ 12 := (hg c.toNat (by omega)).2.2.1
        refine g_iload_n (i := 2) (by decide +kernel) rfl ?_
        refine g_aload_n (i := 0) (by decide +kernel) rfl ?_
        refine g_getr f_Nc_10 (by decide +kernel) (by omega) rfl rfl ?_
        refine g_getr f_Nc_148 (by decide +kernel) (by omega) rfl rfl ?_
        refine g_iload_n (i := 1) (by decide +kernel) rfl ?_
        refine g_iald (j := c.toNat) (by decide +kernel) (by omega) rfl (by omega) (by omega) (by decide) ?_
        refine g_icmp_ne (off := 9) (tgt := 91) (by decide +kernel) (by decide) ⟨by omega, by omega⟩ ⟨by omega, by omega⟩ (fun h82 => ?_) (fun h82 => ?_)
        · refine g_aload_n (i := 0) (by decide +kernel) rfl ?_
          refine g_getr f_Nc_16 (by decide +kernel) (by omega) rfl rfl ?_
          refine g_aload_n (i := 0) (by decide +kernel) rfl ?_
          refine g_getr f_Nc_10 (by decide +kernel) (by omega) rfl rfl ?_
          refine g_cVV (st := _) (c_Sh_copyFrom (b := 11) (f := 1) hn sh_11 sh_1 (Or.inr (by omega))) k_Sh_copyFrom l_Nc_128 (by decide +kernel) (by omega) rfl rfl rfl rfl (Nat.le_of_ble_eq_true rfl) (by decide) ⟨by decide, by decide⟩ ?_
          rintro τ hC
          have gT : zGood τ 11 := zGood_v.mp (hC.sm.good (zGood_v.mpr ho.1))
          refine g_aload_n (i := 0) (by decide +kernel) rfl ?_
          refine g_getr f_Nc_16 (by decide +kernel) (by omega) rfl rfl ?_
          refine g_iload_n (i := 1) (by decide +kernel) rfl ?_
          refine g_iload_n (i := 2) (by decide +kernel) rfl ?_
          obtain ⟨k, rfl⟩ := Int.eq_ofNat_of_zero_le h53.1
          have e9k : ((k : Int)).toNat = k := Int.toNat_natCast k
          refine g_cVV (st := _) (c_Sh_shift (b := 11) (k := k) hn sh_11 gT (by omega) ⟨by omega, by omega⟩) k_Sh_shift l_Nc_150 (by decide +kernel) (by omega) rfl rfl rfl rfl (Nat.le_of_ble_eq_true rfl) (by decide) ⟨by decide, by decide⟩ ?_
          rintro υ hυ
          have hdf : zDf σ υ := hυ.df hC.df
          have hs : zSame2 (zSv υ 11) (zOpV (zSv σ 1) k p) := zShift_sm (by omega) (by omega) hC.sm hυ
          have hF2 : zFin (zOpV (zSv σ 1) k p) := zOpV_fin hf.1 (by omega) ⟨by omega, by have := hJ ⟨h53, by omega⟩; rw [e9k] at this; show p < (zcnt (fun j => decide (σ 3 j = σ 3 k)) (σ 1 0).toNat : Int); omega⟩
          refine g_aload_n (i := 0) (by decide +kernel) rfl ?_
          refine g_aload_n (i := 0) (by decide +kernel) rfl ?_
          refine g_getr f_Nc_10 (by decide +kernel) (by omega) rfl rfl ?_
          refine g_getr f_Nc_148 (by decide +kernel) (by omega) rfl rfl ?_
          refine g_iload_n (i := 1) (by decide +kernel) rfl ?_
          refine g_iald (j := k) (by decide +kernel) (by omega) rfl rfl (by omega) (by decide) ?_
          rw [hdf 4 (by omega)]
          refine g_cVI (st := _) (c_Nc_act hn (hdf.cl hc0 (hs.fin hF2)) (hs.fin hF2)) k_Nc_act l_Nc_114 (by decide +kernel) (by omega) rfl rfl rfl rfl (Nat.le_of_ble_eq_true rfl) (by decide) ⟨by decide, by decide⟩ ?_
          rintro a9 σ9 hA
          have hA := hA.base hdf hs
          rw [hs.last hF2] at hA
          refine g_retI (by decide +kernel) rfl (Or.inl rfl) ⟨by decide, by decide⟩ ?_
          rw [if_neg (by omega), if_neg (fun y => y h53), if_neg (by omega)]
          rw [e9k]
          rw [e9k] at h82
          exact hA.ok (if_neg (by omega))
        · refine g_aload_n (i := 0) (by decide +kernel) rfl ?_
          refine g_iconst (a := 4) (by decide +kernel) ?_
          refine g_cVI (st := _) (c_Nc_refuse hn) k_Nc_refuse l_Nc_97 (by decide +kernel) (by omega) rfl rfl rfl rfl (Nat.le_of_ble_eq_true rfl) (by decide) ⟨by decide, by decide⟩ ?_
          rintro a9 σ9 ⟨ea9, hσ9⟩
          obtain rfl := ea9.symm
          subst hσ9
          refine g_retI (by decide +kernel) rfl (Or.inl rfl) ⟨by decide, by decide⟩ ?_
          exact zAcC.no hc0 (by rw [if_neg (by omega), if_neg (fun y => y h53), if_neg (by omega), if_pos (by omega)]) (by decide)
      · refine g_aload_n (i := 0) (by decide +kernel) rfl ?_
        refine g_iconst (a := 5) (by decide +kernel) ?_
        refine g_cVI (st := _) (c_Nc_refuse hn) k_Nc_refuse l_Nc_97 (by decide +kernel) (by omega) rfl rfl rfl rfl (Nat.le_of_ble_eq_true rfl) (by decide) ⟨by decide, by decide⟩ ?_
        rintro a9 σ9 ⟨ea9, hσ9⟩
        obtain rfl := ea9.symm
        subst hσ9
        refine g_retI (by decide +kernel) rfl (Or.inl rfl) ⟨by decide, by decide⟩ ?_
        exact zAcC.no hc0 (by rw [if_neg (by omega), if_neg (fun y => y h53), if_pos (by omega)]) (by decide)
    · have h53 := zb0.mp h53
      refine g_aload_n (i := 0) (by decide +kernel) rfl ?_
      refine g_iconst (a := 2) (by decide +kernel) ?_
      refine g_cVI (st := _) (c_Nc_refuse hn) k_Nc_refuse l_Nc_97 (by decide +kernel) (by omega) rfl rfl rfl rfl (Nat.le_of_ble_eq_true rfl) (by decide) ⟨by decide, by decide⟩ ?_
      rintro a9 σ9 ⟨ea9, hσ9⟩
      obtain rfl := ea9.symm
      subst hσ9
      refine g_retI (by decide +kernel) rfl (Or.inl rfl) ⟨by decide, by decide⟩ ?_
      exact zAcC.no hc0 (by rw [if_neg (by omega), if_pos h53]) (by decide)
  refine g_iload_n (i := 2) (by decide +kernel) rfl ?_
  refine g_if_lt (off := 38) (tgt := 39) (by decide +kernel) (by decide) ⟨by omega, by omega⟩ (fun h1 => ?_) (fun h1 => ?_)
  · refine g_aload_n (i := 0) (by decide +kernel) rfl ?_
    refine g_iconst (a := 1) (by decide +kernel) ?_
    refine g_cVI (st := _) (c_Nc_refuse hn) k_Nc_refuse l_Nc_97 (by decide +kernel) (by omega) rfl rfl rfl rfl (Nat.le_of_ble_eq_true rfl) (by decide) ⟨by decide, by decide⟩ ?_
    rintro a9 σ9 ⟨ea9, hσ9⟩
    obtain rfl := ea9.symm
    subst hσ9
    refine g_retI (by decide +kernel) rfl (Or.inl rfl) ⟨by decide, by decide⟩ ?_
    exact zAcC.no hc0 (if_pos (by omega)) (by decide)
  · refine g_aload_n (i := 0) (by decide +kernel) rfl ?_
    refine g_getr f_Nc_10 (by decide +kernel) (by omega) rfl rfl ?_
    refine g_iload_n (i := 1) (by decide +kernel) rfl ?_
    refine g_cVI (st := _) (c_Sh_has (b := 1) hn sh_1 z1 ⟨hc.1, hc.2.1⟩) k_Sh_has l_Nc_117 (by decide +kernel) (by omega) rfl rfl rfl rfl (Nat.le_of_ble_eq_true rfl) (by decide) ⟨by decide, by decide⟩ ?_
    rintro a σ9 ⟨ea, hσ⟩
    obtain rfl := hσ.symm
    subst ea
    refine g_if_eq (off := 33) (tgt := 45) (by decide +kernel) (by decide) zbr (fun h12 => ?_) (fun h12 => ?_)
    · have h12 := zb0.mp h12
      exact J45 (by omega) (fun y => by omega)
    · have h12 := zb1.mp h12
      refine g_iload_n (i := 1) (by decide +kernel) rfl ?_
      refine g_if_eq (off := 29) (tgt := 45) (by decide +kernel) (by decide) ⟨by omega, by omega⟩ (fun h16 => ?_) (fun h16 => ?_)
      · exact J45 (by omega) (fun y => by omega)
      · have kr := hg c.toNat (by omega)
        have kr2 : -1 ≤ σ 3 c.toNat ∧ σ 3 c.toNat ≤ 11 := kr.2.1
        have zl := zcnt_le (fun j => decide (σ 3 j = σ 3 c.toNat)) (σ 1 0).toNat
        refine g_iload_n (i := 2) (by decide +kernel) rfl ?_
        refine g_aload_n (i := 0) (by decide +kernel) rfl ?_
        refine g_getr f_Nc_10 (by decide +kernel) (by omega) rfl rfl ?_
        refine g_aload_n (i := 0) (by decide +kernel) rfl ?_
        refine g_getr f_Nc_10 (by decide +kernel) (by omega) rfl rfl ?_
        refine g_getr f_Nc_142 (by decide +kernel) (by omega) rfl rfl ?_
        refine g_iload_n (i := 1) (by decide +kernel) rfl ?_
        refine g_iald (j := c.toNat) (by decide +kernel) (by omega) rfl (by omega) (by omega) (by decide) ?_
        refine g_cVI (st := _) (c_Sh_howManyIn (b := 1) (k := σ 3 c.toNat) hn sh_1 ho.1 ⟨by omega, by omega⟩) k_Sh_howManyIn l_Nc_145 (by decide +kernel) (by omega) rfl rfl rfl rfl (Nat.le_of_ble_eq_true rfl) (by decide) ⟨by decide, by decide⟩ ?_
        rintro a9 σ9 ⟨ea9, hσ9⟩
        obtain rfl := hσ9.symm
        have ea9 : a9 = (zcnt (fun j => decide (σ 3 j = σ 3 c.toNat)) (σ 1 0).toNat : Int) := ea9
        refine g_icmp_lt (off := 9) (tgt := 45) (by decide +kernel) (by decide) ⟨by omega, by omega⟩ ⟨by omega, by omega⟩ (fun h36 => ?_) (fun h36 => ?_)
        · exact J45 (by omega) (fun y => by omega)
        · refine g_aload_n (i := 0) (by decide +kernel) rfl ?_
          refine g_iconst (a := 1) (by decide +kernel) ?_
          refine g_cVI (st := _) (c_Nc_refuse hn) k_Nc_refuse l_Nc_97 (by decide +kernel) (by omega) rfl rfl rfl rfl (Nat.le_of_ble_eq_true rfl) (by decide) ⟨by decide, by decide⟩ ?_
          rintro a9 σ9 ⟨ea9, hσ9⟩
          obtain rfl := ea9.symm
          subst hσ9
          refine g_retI (by decide +kernel) rfl (Or.inl rfl) ⟨by decide, by decide⟩ ?_
          exact zAcC.no hc0 (if_pos (by omega)) (by decide)
