theorem c_Nc_start {G : zG} {n : Nat} {σ : zSt} {c h o m : Int} (hn : 189 ≤ n) (hc0 : zCl σ) (z1 : zr c) (z2 : zr h) (z3 : zr o) (z4 : zr m) : Gm G y_Nc_start m_Nc_start 6 0 0 [vr G 0, vi c, vi h, vi o, vi m] n SH σ (zI n SH (fun a σ' => zAcC σ σ' a (if (h < 0 ∨ 3 < h ∨ m < 0 ∨ (h = 3 ∧ 3 < m) ∨ 999 < m) then 1 else if (¬ (0 ≤ c ∧ c < σ 1 0) ∨ ((h = 1 ∨ h = 2) ∧ ¬ (0 ≤ o ∧ o < σ 1 0))) then 2 else if (σ 5 c.toNat = h ∧ σ 6 c.toNat = (if h = 1 ∨ h = 2 then o else -1) ∧ σ 7 c.toNat = m) then 4 else if ((h ≠ 0 ∧ ¬ (σ 3 c.toNat ≠ -1 ∧ σ 2 (σ 3 c.toNat).toNat = 1)) ∨ ((h = 1 ∨ h = 2) ∧ σ 3 o.toNat ≠ σ 3 c.toNat)) then 5 else if ((h = 1 ∨ h = 2) ∧ zlead (σ 5) (σ 6) c 12 o = true) then 6 else if 1999 < zlast (zOpS (zSv σ 1) c.toNat h (if h = 1 ∨ h = 2 then o else -1) m) then 7 else 0) (σ 5 c.toNat) (zOpS (zSv σ 1) c.toNat h (if h = 1 ∨ h = 2 then o else -1) m))) := by
  refine g_enter (L := [(0, _), (1, _), (2, _), (3, _), (4, _)]) (by decide) rfl rfl rfl (Nat.le_of_ble_eq_true rfl) (fun X => ?_)
  obtain ⟨ho, hR, hf, hD, hO, h951, h952⟩ := id hc0
  have hc := ho.1.1
  have hN : zN (zSv σ 1) = (σ 1 0).toNat := rfl
  have hg := ho.1.2.1
  obtain ⟨z1a, z1b⟩ := id z1
  obtain ⟨z2a, z2b⟩ := id z2
  obtain ⟨z3a, z3b⟩ := id z3
  obtain ⟨z4a, z4b⟩ := id z4
  have J221 : ∀ v5 v6 : Int, ¬ (h < 0 ∨ 3 < h ∨ m < 0 ∨ (h = 3 ∧ 3 < m) ∨ 999 < m) → ¬ (¬ (0 ≤ c ∧ c < σ 1 0) ∨ ((h = 1 ∨ h = 2) ∧ ¬ (0 ≤ o ∧ o < σ 1 0))) → ¬ (σ 5 c.toNat = h ∧ σ 6 c.toNat = (if h = 1 ∨ h = 2 then o else -1) ∧ σ 7 c.toNat = m) → ¬ ((h ≠ 0 ∧ ¬ (σ 3 c.toNat ≠ -1 ∧ σ 2 (σ 3 c.toNat).toNat = 1)) ∨ ((h = 1 ∨ h = 2) ∧ σ 3 o.toNat ≠ σ 3 c.toNat)) → ¬ ((h = 1 ∨ h = 2) ∧ zlead (σ 5) (σ 6) c 12 o = true) → v6 = (if h = 1 ∨ h = 2 then o else -1) → Go G X m_Nc_start (6, 0, 0, 0, 0) n SH σ 221 [(0, vr G 0), (1, vi c), (2, vi h), (3, vi o), (4, vi m), (5, vi v5), (6, vi v6), (7, vi (σ 5 c.toNat))] [] (zI n SH (fun a σ' => zAcC σ σ' a (if (h < 0 ∨ 3 < h ∨ m < 0 ∨ (h = 3 ∧ 3 < m) ∨ 999 < m) then 1 else if (¬ (0 ≤ c ∧ c < σ 1 0) ∨ ((h = 1 ∨ h = 2) ∧ ¬ (0 ≤ o ∧ o < σ 1 0))) then 2 else if (σ 5 c.toNat = h ∧ σ 6 c.toNat = (if h = 1 ∨ h = 2 then o else -1) ∧ σ 7 c.toNat = m) then 4 else if ((h ≠ 0 ∧ ¬ (σ 3 c.toNat ≠ -1 ∧ σ 2 (σ 3 c.toNat).toNat = 1)) ∨ ((h = 1 ∨ h = 2) ∧ σ 3 o.toNat ≠ σ 3 c.toNat)) then 5 else if ((h = 1 ∨ h = 2) ∧ zlead (σ 5) (σ 6) c 12 o = true) then 6 else if 1999 < zlast (zOpS (zSv σ 1) c.toNat h (if h = 1 ∨ h = 2 then o else -1) m) then 7 else 0) (σ 5 c.toNat) (zOpS (zSv σ 1) c.toNat h (if h = 1 ∨ h = 2 then o else -1) m))) := by
    intro v5 v6 c1 c2 c4 c5 c6 e6
    have kc := hg c.toNat (by omega)
    have k3 : -1 ≤ σ 3 c.toNat ∧ σ 3 c.toNat ≤ 11 := kc.2.1
    have k5 : 0 ≤ σ 5 c.toNat ∧ σ 5 c.toNat ≤ 3 := kc.2.2.2.1
    have k6 : -1 ≤ σ 6 c.toNat ∧ σ 6 c.toNat ≤ 11 := kc.2.2.2.2.1
    have k7 : 0 ≤ σ 7 c.toNat ∧ σ 7 c.toNat ≤ 999 := kc.2.2.2.2.2
    obtain ⟨k, rfl⟩ := Int.eq_ofNat_of_zero_le (show 0 ≤ c by omega)
    have e9k : ((k : Int)).toNat = k := Int.toNat_natCast k
    rw [e9k] at c5
    refine g_aload_n (i := 0) (by decide +kernel) rfl ?_
    refine g_getr f_Nc_16 (by decide +kernel) (by omega) rfl rfl ?_
    refine g_aload_n (i := 0) (by decide +kernel) rfl ?_
    refine g_getr f_Nc_10 (by decide +kernel) (by omega) rfl rfl ?_
    refine g_cVV (st := _) (c_Sh_copyFrom (b := 11) (f := 1) hn sh_11 sh_1 (Or.inr (by omega))) k_Sh_copyFrom l_Nc_128 (by decide +kernel) (by omega) rfl rfl rfl rfl (Nat.le_of_ble_eq_true rfl) (by decide) ⟨by decide, by decide⟩ ?_
    rintro τ hC
    have gT : zGood τ 11 := zGood_v.mp (hC.sm.good (zGood_v.mpr ho.1))
    refine g_aload_n (i := 0) (by decide +kernel) rfl ?_
    refine g_getr f_Nc_16 (by decide +kernel) (by omega) rfl rfl ?_
    refine g_iload_n (i := 1) (by decide +kernel) rfl ?_
    refine g_iload_n (i := 2) (by decide +kernel) rfl ?_
    refine g_iload (i := 6) (by decide +kernel) rfl ?_
    refine g_iload (i := 4) (by decide +kernel) rfl ?_
    refine g_cVV (st := _) (c_Sh_putStart (b := 11) (k := k) (x := h) (y := v6) (v := m) hn sh_11 (by omega)) k_Sh_putStart l_Nc_183 (by decide +kernel) (by omega) rfl rfl rfl rfl (Nat.le_of_ble_eq_true rfl) (by decide) ⟨by decide, by decide⟩ ?_
    rintro υ hυ
    have hdf : zDf σ υ := by rw [hυ]; exact ((hC.df.put (r := 4) (by decide)).put (r := 5) (by decide)).put (r := 6) (by decide)
    have hs : zSame2 (zSv υ 11) (zOpS (zSv σ 1) k h v6 m) := by
      rw [hυ, zSv_zs, zSv_zs, zSv_zs]
      exact ((hC.sm.zs 4 _ _).zs 5 _ _).zs 6 _ _
    have hF2 : zFin (zOpS (zSv σ 1) k h v6 m) := zOpS_fin hf.1 (by omega) (by omega) (by omega) (fun y => by
        have c5 : ¬ (h ≠ 0 ∧ ¬ (σ 3 k ≠ -1 ∧ σ 2 (σ 3 k).toNat = 1)) := fun y => c5 (Or.inl y)
        show σ 3 k ≠ -1 ∧ σ 2 (σ 3 k).toNat = 1
        omega) (fun y => by
        have b := of_decide_eq_true y
        rw [if_pos b] at e6
        have c5 : ¬ σ 3 o.toNat ≠ σ 3 k := fun y => c5 (Or.inr ⟨b, y⟩)
        rw [e6]
        refine ⟨by omega, by omega, ?_, ?_⟩
        · show σ 3 o.toNat = σ 3 k; omega
        · exact Bool.eq_false_iff.mpr (fun z => c6 ⟨b, z⟩)) (fun y => by rw [e6, if_neg (of_decide_eq_false y)])
    refine g_aload_n (i := 0) (by decide +kernel) rfl ?_
    refine g_iload (i := 7) (by decide +kernel) rfl ?_
    refine g_cVI (st := _) (c_Nc_act hn (hdf.cl hc0 (hs.fin hF2)) (hs.fin hF2)) k_Nc_act l_Nc_114 (by decide +kernel) (by omega) rfl rfl rfl rfl (Nat.le_of_ble_eq_true rfl) (by decide) ⟨by decide, by decide⟩ ?_
    rintro a9 σ9 hA
    have hA := hA.base hdf hs
    rw [hs.last hF2] at hA
    refine g_retI (by decide +kernel) rfl (Or.inl rfl) ⟨by decide, by decide⟩ ?_
    rw [e6] at hA
    rw [if_neg c1, if_neg c2, if_neg c4, if_neg (by rw [e9k]; exact c5), if_neg c6]
    simp only [Int.toNat_natCast] at hA ⊢
    exact hA
  have J197 : ∀ v5 v6 : Int, ((v5 = 1 ∧ (h = 1 ∨ h = 2)) ∨ (v5 = 0 ∧ ¬ (h = 1 ∨ h = 2))) → ¬ (h < 0 ∨ 3 < h ∨ m < 0 ∨ (h = 3 ∧ 3 < m) ∨ 999 < m) → ¬ (¬ (0 ≤ c ∧ c < σ 1 0) ∨ ((h = 1 ∨ h = 2) ∧ ¬ (0 ≤ o ∧ o < σ 1 0))) → ¬ (σ 5 c.toNat = h ∧ σ 6 c.toNat = (if h = 1 ∨ h = 2 then o else -1) ∧ σ 7 c.toNat = m) → ¬ ((h ≠ 0 ∧ ¬ (σ 3 c.toNat ≠ -1 ∧ σ 2 (σ 3 c.toNat).toNat = 1)) ∨ ((h = 1 ∨ h = 2) ∧ σ 3 o.toNat ≠ σ 3 c.toNat)) → v6 = (if h = 1 ∨ h = 2 then o else -1) → Go G X m_Nc_start (6, 0, 0, 0, 0) n SH σ 197 [(0, vr G 0), (1, vi c), (2, vi h), (3, vi o), (4, vi m), (5, vi v5), (6, vi v6), (7, vi (σ 5 c.toNat))] [] (zI n SH (fun a σ' => zAcC σ σ' a (if (h < 0 ∨ 3 < h ∨ m < 0 ∨ (h = 3 ∧ 3 < m) ∨ 999 < m) then 1 else if (¬ (0 ≤ c ∧ c < σ 1 0) ∨ ((h = 1 ∨ h = 2) ∧ ¬ (0 ≤ o ∧ o < σ 1 0))) then 2 else if (σ 5 c.toNat = h ∧ σ 6 c.toNat = (if h = 1 ∨ h = 2 then o else -1) ∧ σ 7 c.toNat = m) then 4 else if ((h ≠ 0 ∧ ¬ (σ 3 c.toNat ≠ -1 ∧ σ 2 (σ 3 c.toNat).toNat = 1)) ∨ ((h = 1 ∨ h = 2) ∧ σ 3 o.toNat ≠ σ 3 c.toNat)) then 5 else if ((h = 1 ∨ h = 2) ∧ zlead (σ 5) (σ 6) c 12 o = true) then 6 else if 1999 < zlast (zOpS (zSv σ 1) c.toNat h (if h = 1 ∨ h = 2 then o else -1) m) then 7 else 0) (σ 5 c.toNat) (zOpS (zSv σ 1) c.toNat h (if h = 1 ∨ h = 2 then o else -1) m))) := by
    intro v5 v6 hv5 c1 c2 c4 c5 e6
    refine g_iload (i := 5) (by decide +kernel) rfl ?_
    refine g_if_eq (off := 22) (tgt := 221) (by decide +kernel) (by decide) ⟨by omega, by omega⟩ (fun h199 => ?_) (fun h199 => ?_)
    · first
        | exact J221 _ _ c1 c2 c4 c5 (fun y => by omega) e6
        | exact J221 _ _ c1 c2 c4 c5 (fun y => h211 y.2) e6
    · refine g_aload_n (i := 0) (by decide +kernel) rfl ?_
      refine g_getr f_Nc_10 (by decide +kernel) (by omega) rfl rfl ?_
      refine g_iload_n (i := 3) (by decide +kernel) rfl ?_
      refine g_iload_n (i := 1) (by decide +kernel) rfl ?_
      refine g_cVI (st := _) (c_Sh_startLeadsTo (b := 1) (x := o) (q := c) hn sh_1 ho.1 z1 (D := fun y => 0 ≤ y ∧ y < σ 1 0) (fun y hy => ⟨hy.1, by omega, fun b => by
          obtain ⟨⟨d, r, hv⟩, -⟩ := ho.2.1
          have t := hv.oth (k := y.toNat) (by omega) b
          have t1 : 0 ≤ σ 6 y.toNat := t.1
          have t2 : (σ 6 y.toNat).toNat < zN (zSv σ 1) := t.2.1
          exact ⟨t1, by show σ 6 y.toNat < σ 1 0; omega⟩⟩) (by show 0 ≤ o ∧ o < σ 1 0; omega)) k_Sh_startLeadsTo l_Nc_179 (by decide +kernel) (by omega) rfl rfl rfl rfl (Nat.le_of_ble_eq_true rfl) (by decide) ⟨by decide, by decide⟩ ?_
      rintro a σ9 ⟨ea, hσ⟩
      obtain rfl := hσ.symm
      subst ea
      refine g_if_eq (off := 10) (tgt := 221) (by decide +kernel) (by decide) zbr (fun h211 => ?_) (fun h211 => ?_)
      · have h211 := zb0.mp h211
        first
          | exact J221 _ _ c1 c2 c4 c5 (fun y => by omega) e6
          | exact J221 _ _ c1 c2 c4 c5 (fun y => h211 y.2) e6
      · have h211 := zb1.mp h211
        refine g_aload_n (i := 0) (by decide +kernel) rfl ?_
        refine g_bipush (a := 6) (by decide +kernel) (by decide) ?_
        refine g_cVI (st := _) (c_Nc_refuse hn) k_Nc_refuse l_Nc_97 (by decide +kernel) (by omega) rfl rfl rfl rfl (Nat.le_of_ble_eq_true rfl) (by decide) ⟨by decide, by decide⟩ ?_
        rintro a9 σ9 ⟨ea9, hσ9⟩
        obtain rfl := ea9.symm
        subst hσ9
        refine g_retI (by decide +kernel) rfl (Or.inl rfl) ⟨by decide, by decide⟩ ?_
        exact zAcC.no hc0 (by rw [if_neg c1, if_neg c2, if_neg c4, if_neg c5, if_pos ⟨by omega, h211⟩]) (by decide)
  have J165 : ∀ v5 v6 : Int, ((v5 = 1 ∧ (h = 1 ∨ h = 2)) ∨ (v5 = 0 ∧ ¬ (h = 1 ∨ h = 2))) → ¬ (h < 0 ∨ 3 < h ∨ m < 0 ∨ (h = 3 ∧ 3 < m) ∨ 999 < m) → ¬ (¬ (0 ≤ c ∧ c < σ 1 0) ∨ ((h = 1 ∨ h = 2) ∧ ¬ (0 ≤ o ∧ o < σ 1 0))) → ¬ (σ 5 c.toNat = h ∧ σ 6 c.toNat = (if h = 1 ∨ h = 2 then o else -1) ∧ σ 7 c.toNat = m) → v6 = (if h = 1 ∨ h = 2 then o else -1) → ¬ (h ≠ 0 ∧ ¬ (σ 3 c.toNat ≠ -1 ∧ σ 2 (σ 3 c.toNat).toNat = 1)) → Go G X m_Nc_start (6, 0, 0, 0, 0) n SH σ 165 [(0, vr G 0), (1, vi c), (2, vi h), (3, vi o), (4, vi m), (5, vi v5), (6, vi v6), (7, vi (σ 5 c.toNat))] [] (zI n SH (fun a σ' => zAcC σ σ' a (if (h < 0 ∨ 3 < h ∨ m < 0 ∨ (h = 3 ∧ 3 < m) ∨ 999 < m) then 1 else if (¬ (0 ≤ c ∧ c < σ 1 0) ∨ ((h = 1 ∨ h = 2) ∧ ¬ (0 ≤ o ∧ o < σ 1 0))) then 2 else if (σ 5 c.toNat = h ∧ σ 6 c.toNat = (if h = 1 ∨ h = 2 then o else -1) ∧ σ 7 c.toNat = m) then 4 else if ((h ≠ 0 ∧ ¬ (σ 3 c.toNat ≠ -1 ∧ σ 2 (σ 3 c.toNat).toNat = 1)) ∨ ((h = 1 ∨ h = 2) ∧ σ 3 o.toNat ≠ σ 3 c.toNat)) then 5 else if ((h = 1 ∨ h = 2) ∧ zlead (σ 5) (σ 6) c 12 o = true) then 6 else if 1999 < zlast (zOpS (zSv σ 1) c.toNat h (if h = 1 ∨ h = 2 then o else -1) m) then 7 else 0) (σ 5 c.toNat) (zOpS (zSv σ 1) c.toNat h (if h = 1 ∨ h = 2 then o else -1) m))) := by
    intro v5 v6 hv5 c1 c2 c4 e6 c5
    refine g_iload (i := 5) (by decide +kernel) rfl ?_
    refine g_if_eq (off := 30) (tgt := 197) (by decide +kernel) (by decide) ⟨by omega, by omega⟩ (fun h167 => ?_) (fun h167 => ?_)
    · exact J197 _ _ hv5 c1 c2 c4 (fun y => by
        rcases y with y | y
        · exact c5 y
        · omega) e6
    · have kc := hg c.toNat (by omega)
      have k3 : -1 ≤ σ 3 c.toNat ∧ σ 3 c.toNat ≤ 11 := kc.2.1
      have k3o : -1 ≤ σ 3 o.toNat ∧ σ 3 o.toNat ≤ 11 := (hg o.toNat (by omega)).2.1
      refine g_aload_n (i := 0) (by decide +kernel) rfl ?_
      refine g_getr f_Nc_10 (by decide +kernel) (by omega) rfl rfl ?_
      refine g_getr f_Nc_142 (by decide +kernel) (by omega) rfl rfl ?_
      refine g_iload_n (i := 3) (by decide +kernel) rfl ?_
      refine g_iald (j := o.toNat) (by decide +kernel) (by omega) rfl (by omega) (by omega) (by decide) ?_
      refine g_aload_n (i := 0) (by decide +kernel) rfl ?_
      refine g_getr f_Nc_10 (by decide +kernel) (by omega) rfl rfl ?_
      refine g_getr f_Nc_142 (by decide +kernel) (by omega) rfl rfl ?_
      refine g_iload_n (i := 1) (by decide +kernel) rfl ?_
      refine g_iald (j := c.toNat) (by decide +kernel) (by omega) rfl (by omega) (by omega) (by decide) ?_
      refine g_icmp_eq (off := 9) (tgt := 197) (by decide +kernel) (by decide) ⟨by omega, by omega⟩ ⟨by omega, by omega⟩ (fun h188 => ?_) (fun h188 => ?_)
      · exact J197 _ _ hv5 c1 c2 c4 (fun y => by
          rcases y with y | y
          · exact c5 y
          · omega) e6
      · have c5x : ((h ≠ 0 ∧ ¬ (σ 3 c.toNat ≠ -1 ∧ σ 2 (σ 3 c.toNat).toNat = 1)) ∨ ((h = 1 ∨ h = 2) ∧ σ 3 o.toNat ≠ σ 3 c.toNat)) := by
          first
            | exact Or.inl ⟨by omega, h162⟩
            | exact Or.inr ⟨by omega, by omega⟩
        refine g_aload_n (i := 0) (by decide +kernel) rfl ?_
        refine g_iconst (a := 5) (by decide +kernel) ?_
        refine g_cVI (st := _) (c_Nc_refuse hn) k_Nc_refuse l_Nc_97 (by decide +kernel) (by omega) rfl rfl rfl rfl (Nat.le_of_ble_eq_true rfl) (by decide) ⟨by decide, by decide⟩ ?_
        rintro a9 σ9 ⟨ea9, hσ9⟩
        obtain rfl := ea9.symm
        subst hσ9
        refine g_retI (by decide +kernel) rfl (Or.inl rfl) ⟨by decide, by decide⟩ ?_
        exact zAcC.no hc0 (by rw [if_neg c1, if_neg c2, if_neg c4, if_pos c5x]) (by decide)
  have J150 : ∀ v5 v6 : Int, ((v5 = 1 ∧ (h = 1 ∨ h = 2)) ∨ (v5 = 0 ∧ ¬ (h = 1 ∨ h = 2))) → ¬ (h < 0 ∨ 3 < h ∨ m < 0 ∨ (h = 3 ∧ 3 < m) ∨ 999 < m) → ¬ (¬ (0 ≤ c ∧ c < σ 1 0) ∨ ((h = 1 ∨ h = 2) ∧ ¬ (0 ≤ o ∧ o < σ 1 0))) → ¬ (σ 5 c.toNat = h ∧ σ 6 c.toNat = (if h = 1 ∨ h = 2 then o else -1) ∧ σ 7 c.toNat = m) → v6 = (if h = 1 ∨ h = 2 then o else -1) → Go G X m_Nc_start (6, 0, 0, 0, 0) n SH σ 150 [(0, vr G 0), (1, vi c), (2, vi h), (3, vi o), (4, vi m), (5, vi v5), (6, vi v6), (7, vi (σ 5 c.toNat))] [] (zI n SH (fun a σ' => zAcC σ σ' a (if (h < 0 ∨ 3 < h ∨ m < 0 ∨ (h = 3 ∧ 3 < m) ∨ 999 < m) then 1 else if (¬ (0 ≤ c ∧ c < σ 1 0) ∨ ((h = 1 ∨ h = 2) ∧ ¬ (0 ≤ o ∧ o < σ 1 0))) then 2 else if (σ 5 c.toNat = h ∧ σ 6 c.toNat = (if h = 1 ∨ h = 2 then o else -1) ∧ σ 7 c.toNat = m) then 4 else if ((h ≠ 0 ∧ ¬ (σ 3 c.toNat ≠ -1 ∧ σ 2 (σ 3 c.toNat).toNat = 1)) ∨ ((h = 1 ∨ h = 2) ∧ σ 3 o.toNat ≠ σ 3 c.toNat)) then 5 else if ((h = 1 ∨ h = 2) ∧ zlead (σ 5) (σ 6) c 12 o = true) then 6 else if 1999 < zlast (zOpS (zSv σ 1) c.toNat h (if h = 1 ∨ h = 2 then o else -1) m) then 7 else 0) (σ 5 c.toNat) (zOpS (zSv σ 1) c.toNat h (if h = 1 ∨ h = 2 then o else -1) m))) := by
    intro v5 v6 hv5 c1 c2 c4 e6
    have kc := hg c.toNat (by omega)
    have k3 : -1 ≤ σ 3 c.toNat ∧ σ 3 c.toNat ≤ 11 := kc.2.1
    have k5 : 0 ≤ σ 5 c.toNat ∧ σ 5 c.toNat ≤ 3 := kc.2.2.2.1
    have k6 : -1 ≤ σ 6 c.toNat ∧ σ 6 c.toNat ≤ 11 := kc.2.2.2.2.1
    have k7 : 0 ≤ σ 7 c.toNat ∧ σ 7 c.toNat ≤ 999 := kc.2.2.2.2.2
    refine g_iload_n (i := 2) (by decide +kernel) rfl ?_
    refine g_if_eq (off := 14) (tgt := 165) (by decide +kernel) (by decide) ⟨by omega, by omega⟩ (fun h151 => ?_) (fun h151 => ?_)
    · first
        | exact J165 _ _ hv5 c1 c2 c4 e6 (fun y => y.1 (by omega))
        | exact J165 _ _ hv5 c1 c2 c4 e6 (fun y => y.2 h162)
    · refine g_aload_n (i := 0) (by decide +kernel) rfl ?_
      refine g_getr f_Nc_10 (by decide +kernel) (by omega) rfl rfl ?_
      refine g_iload_n (i := 1) (by decide +kernel) rfl ?_
      obtain ⟨k, ek⟩ := Int.eq_ofNat_of_zero_le (show 0 ≤ c by omega)
      have e9k : c.toNat = k := by omega
      have ip := c_Sh_isInPar (G := G) (n := n) (σ := σ) (b := 1) (k := k) hn sh_1 ho.1 (by omega)
      rw [← ek, ← e9k] at ip
      refine g_cVI (st := _) (ip) k_Sh_isInPar l_Nc_176 (by decide +kernel) (by omega) rfl rfl rfl rfl (Nat.le_of_ble_eq_true rfl) (by decide) ⟨by decide, by decide⟩ ?_
      rintro a σ9 ⟨ea, hσ⟩
      obtain rfl := hσ.symm
      subst ea
      refine g_if_eq (off := 29) (tgt := 191) (by decide +kernel) (by decide) zbr (fun h162 => ?_) (fun h162 => ?_)
      · have h162 := zb0.mp h162
        have c5x : ((h ≠ 0 ∧ ¬ (σ 3 c.toNat ≠ -1 ∧ σ 2 (σ 3 c.toNat).toNat = 1)) ∨ ((h = 1 ∨ h = 2) ∧ σ 3 o.toNat ≠ σ 3 c.toNat)) := by
          first
            | exact Or.inl ⟨by omega, h162⟩
            | exact Or.inr ⟨by omega, by omega⟩
        refine g_aload_n (i := 0) (by decide +kernel) rfl ?_
        refine g_iconst (a := 5) (by decide +kernel) ?_
        refine g_cVI (st := _) (c_Nc_refuse hn) k_Nc_refuse l_Nc_97 (by decide +kernel) (by omega) rfl rfl rfl rfl (Nat.le_of_ble_eq_true rfl) (by decide) ⟨by decide, by decide⟩ ?_
        rintro a9 σ9 ⟨ea9, hσ9⟩
        obtain rfl := ea9.symm
        subst hσ9
        refine g_retI (by decide +kernel) rfl (Or.inl rfl) ⟨by decide, by decide⟩ ?_
        exact zAcC.no hc0 (by rw [if_neg c1, if_neg c2, if_neg c4, if_pos c5x]) (by decide)
      · have h162 := zb1.mp h162
        first
          | exact J165 _ _ hv5 c1 c2 c4 e6 (fun y => y.1 (by omega))
          | exact J165 _ _ hv5 c1 c2 c4 e6 (fun y => y.2 h162)
  have J97 : ∀ v5 v6 : Int, ((v5 = 1 ∧ (h = 1 ∨ h = 2)) ∨ (v5 = 0 ∧ ¬ (h = 1 ∨ h = 2))) → ¬ (h < 0 ∨ 3 < h ∨ m < 0 ∨ (h = 3 ∧ 3 < m) ∨ 999 < m) → ¬ (¬ (0 ≤ c ∧ c < σ 1 0) ∨ ((h = 1 ∨ h = 2) ∧ ¬ (0 ≤ o ∧ o < σ 1 0))) → v6 = (if h = 1 ∨ h = 2 then o else -1) → Go G X m_Nc_start (6, 0, 0, 0, 0) n SH σ 97 [(0, vr G 0), (1, vi c), (2, vi h), (3, vi o), (4, vi m), (5, vi v5)] [vi v6] (zI n SH (fun a σ' => zAcC σ σ' a (if (h < 0 ∨ 3 < h ∨ m < 0 ∨ (h = 3 ∧ 3 < m) ∨ 999 < m) then 1 else if (¬ (0 ≤ c ∧ c < σ 1 0) ∨ ((h = 1 ∨ h = 2) ∧ ¬ (0 ≤ o ∧ o < σ 1 0))) then 2 else if (σ 5 c.toNat = h ∧ σ 6 c.toNat = (if h = 1 ∨ h = 2 then o else -1) ∧ σ 7 c.toNat = m) then 4 else if ((h ≠ 0 ∧ ¬ (σ 3 c.toNat ≠ -1 ∧ σ 2 (σ 3 c.toNat).toNat = 1)) ∨ ((h = 1 ∨ h = 2) ∧ σ 3 o.toNat ≠ σ 3 c.toNat)) then 5 else if ((h = 1 ∨ h = 2) ∧ zlead (σ 5) (σ 6) c 12 o = true) then 6 else if 1999 < zlast (zOpS (zSv σ 1) c.toNat h (if h = 1 ∨ h = 2 then o else -1) m) then 7 else 0) (σ 5 c.toNat) (zOpS (zSv σ 1) c.toNat h (if h = 1 ∨ h = 2 then o else -1) m))) := by
    intro v5 v6 hv5 c1 c2 e6
    have kc := hg c.toNat (by omega)
    have k3 : -1 ≤ σ 3 c.toNat ∧ σ 3 c.toNat ≤ 11 := kc.2.1
    have k5 : 0 ≤ σ 5 c.toNat ∧ σ 5 c.toNat ≤ 3 := kc.2.2.2.1
    have k6 : -1 ≤ σ 6 c.toNat ∧ σ 6 c.toNat ≤ 11 := kc.2.2.2.2.1
    have k7 : 0 ≤ σ 7 c.toNat ∧ σ 7 c.toNat ≤ 999 := kc.2.2.2.2.2
    have r6 : -1 ≤ v6 ∧ v6 ≤ 11 := by rw [e6]; split <;> omega
    refine g_istore (i := 6) (L' := [(0, _), (1, _), (2, _), (3, _), (4, _), (5, _), (6, _)]) (by decide +kernel) rfl rfl ?_
    refine g_aload_n (i := 0) (by decide +kernel) rfl ?_
    refine g_getr f_Nc_10 (by decide +kernel) (by omega) rfl rfl ?_
    refine g_getr f_Nc_167 (by decide +kernel) (by omega) rfl rfl ?_
    refine g_iload_n (i := 1) (by decide +kernel) rfl ?_
    refine g_iald (j := c.toNat) (by decide +kernel) (by omega) rfl (by omega) (by omega) (by decide) ?_
    refine g_istore (i := 7) (L' := [(0, _), (1, _), (2, _), (3, _), (4, _), (5, _), (6, _), (7, _)]) (by decide +kernel) rfl rfl ?_
    refine g_iload (i := 7) (by decide +kernel) rfl ?_
    refine g_iload_n (i := 2) (by decide +kernel) rfl ?_
    refine g_icmp_ne (off := 37) (tgt := 150) (by decide +kernel) (by decide) ⟨by omega, by omega⟩ ⟨by omega, by omega⟩ (fun h113 => ?_) (fun h113 => ?_)
    · exact J150 _ _ hv5 c1 c2 (fun y => by omega) e6
    · refine g_aload_n (i := 0) (by decide +kernel) rfl ?_
      refine g_getr f_Nc_10 (by decide +kernel) (by omega) rfl rfl ?_
      refine g_getr f_Nc_170 (by decide +kernel) (by omega) rfl rfl ?_
      refine g_iload_n (i := 1) (by decide +kernel) rfl ?_
      refine g_iald (j := c.toNat) (by decide +kernel) (by omega) rfl (by omega) (by omega) (by decide) ?_
      refine g_iload (i := 6) (by decide +kernel) rfl ?_
      refine g_icmp_ne (off := 23) (tgt := 150) (by decide +kernel) (by decide) ⟨by omega, by omega⟩ ⟨by omega, by omega⟩ (fun h127 => ?_) (fun h127 => ?_)
      · exact J150 _ _ hv5 c1 c2 (fun y => by omega) e6
      · refine g_aload_n (i := 0) (by decide +kernel) rfl ?_
        refine g_getr f_Nc_10 (by decide +kernel) (by omega) rfl rfl ?_
        refine g_getr f_Nc_173 (by decide +kernel) (by omega) rfl rfl ?_
        refine g_iload_n (i := 1) (by decide +kernel) rfl ?_
        refine g_iald (j := c.toNat) (by decide +kernel) (by omega) rfl (by omega) (by omega) (by decide) ?_
        refine g_iload (i := 4) (by decide +kernel) rfl ?_
        refine g_icmp_ne (off := 9) (tgt := 150) (by decide +kernel) (by decide) ⟨by omega, by omega⟩ ⟨by omega, by omega⟩ (fun h141 => ?_) (fun h141 => ?_)
        · exact J150 _ _ hv5 c1 c2 (fun y => by omega) e6
        · refine g_aload_n (i := 0) (by decide +kernel) rfl ?_
          refine g_iconst (a := 4) (by decide +kernel) ?_
          refine g_cVI (st := _) (c_Nc_refuse hn) k_Nc_refuse l_Nc_97 (by decide +kernel) (by omega) rfl rfl rfl rfl (Nat.le_of_ble_eq_true rfl) (by decide) ⟨by decide, by decide⟩ ?_
          rintro a9 σ9 ⟨ea9, hσ9⟩
          obtain rfl := ea9.symm
          subst hσ9
          refine g_retI (by decide +kernel) rfl (Or.inl rfl) ⟨by decide, by decide⟩ ?_
          exact zAcC.no hc0 (by rw [if_neg c1, if_neg c2, if_pos (by omega)]) (by decide)
  have J87 : ∀ v5 : Int, ((v5 = 1 ∧ (h = 1 ∨ h = 2)) ∨ (v5 = 0 ∧ ¬ (h = 1 ∨ h = 2))) → ¬ (h < 0 ∨ 3 < h ∨ m < 0 ∨ (h = 3 ∧ 3 < m) ∨ 999 < m) → ¬ (¬ (0 ≤ c ∧ c < σ 1 0) ∨ ((h = 1 ∨ h = 2) ∧ ¬ (0 ≤ o ∧ o < σ 1 0))) → Go G X m_Nc_start (6, 0, 0, 0, 0) n SH σ 87 [(0, vr G 0), (1, vi c), (2, vi h), (3, vi o), (4, vi m), (5, vi v5)] [] (zI n SH (fun a σ' => zAcC σ σ' a (if (h < 0 ∨ 3 < h ∨ m < 0 ∨ (h = 3 ∧ 3 < m) ∨ 999 < m) then 1 else if (¬ (0 ≤ c ∧ c < σ 1 0) ∨ ((h = 1 ∨ h = 2) ∧ ¬ (0 ≤ o ∧ o < σ 1 0))) then 2 else if (σ 5 c.toNat = h ∧ σ 6 c.toNat = (if h = 1 ∨ h = 2 then o else -1) ∧ σ 7 c.toNat = m) then 4 else if ((h ≠ 0 ∧ ¬ (σ 3 c.toNat ≠ -1 ∧ σ 2 (σ 3 c.toNat).toNat = 1)) ∨ ((h = 1 ∨ h = 2) ∧ σ 3 o.toNat ≠ σ 3 c.toNat)) then 5 else if ((h = 1 ∨ h = 2) ∧ zlead (σ 5) (σ 6) c 12 o = true) then 6 else if 1999 < zlast (zOpS (zSv σ 1) c.toNat h (if h = 1 ∨ h = 2 then o else -1) m) then 7 else 0) (σ 5 c.toNat) (zOpS (zSv σ 1) c.toNat h (if h = 1 ∨ h = 2 then o else -1) m))) := by
    intro v5 hv5 c1 c2
    refine g_iload (i := 5) (by decide +kernel) rfl ?_
    refine g_if_eq (off := 7) (tgt := 96) (by decide +kernel) (by decide) ⟨by omega, by omega⟩ (fun h89 => ?_) (fun h89 => ?_)
    · refine g_iconst (a := -1) (by decide +kernel) ?_
      first
        | exact J97 _ _ hv5 c1 c2 (by rw [if_pos (by omega)])
        | exact J97 _ _ hv5 c1 c2 (by rw [if_neg (by omega)])
    · refine g_iload_n (i := 3) (by decide +kernel) rfl ?_
      refine g_goto (off := 4) (tgt := 97) (by decide +kernel) (by decide) ?_
      first
        | exact J97 _ _ hv5 c1 c2 (by rw [if_pos (by omega)])
        | exact J97 _ _ hv5 c1 c2 (by rw [if_neg (by omega)])
  have J52 : ∀ v5 : Int, ((v5 = 1 ∧ (h = 1 ∨ h = 2)) ∨ (v5 = 0 ∧ ¬ (h = 1 ∨ h = 2))) → ¬ (h < 0 ∨ 3 < h ∨ m < 0 ∨ (h = 3 ∧ 3 < m) ∨ 999 < m) → Go G X m_Nc_start (6, 0, 0, 0, 0) n SH σ 52 [(0, vr G 0), (1, vi c), (2, vi h), (3, vi o), (4, vi m)] [vi v5] (zI n SH (fun a σ' => zAcC σ σ' a (if (h < 0 ∨ 3 < h ∨ m < 0 ∨ (h = 3 ∧ 3 < m) ∨ 999 < m) then 1 else if (¬ (0 ≤ c ∧ c < σ 1 0) ∨ ((h = 1 ∨ h = 2) ∧ ¬ (0 ≤ o ∧ o < σ 1 0))) then 2 else if (σ 5 c.toNat = h ∧ σ 6 c.toNat = (if h = 1 ∨ h = 2 then o else -1) ∧ σ 7 c.toNat = m) then 4 else if ((h ≠ 0 ∧ ¬ (σ 3 c.toNat ≠ -1 ∧ σ 2 (σ 3 c.toNat).toNat = 1)) ∨ ((h = 1 ∨ h = 2) ∧ σ 3 o.toNat ≠ σ 3 c.toNat)) then 5 else if ((h = 1 ∨ h = 2) ∧ zlead (σ 5) (σ 6) c 12 o = true) then 6 else if 1999 < zlast (zOpS (zSv σ 1) c.toNat h (if h = 1 ∨ h = 2 then o else -1) m) then 7 else 0) (σ 5 c.toNat) (zOpS (zSv σ 1) c.toNat h (if h = 1 ∨ h = 2 then o else -1) m))) := by
    intro v5 hv5 c1
    refine g_istore (i := 5) (L' := [(0, _), (1, _), (2, _), (3, _), (4, _), (5, _)]) (by decide +kernel) rfl rfl ?_
    refine g_aload_n (i := 0) (by decide +kernel) rfl ?_
    refine g_getr f_Nc_10 (by decide +kernel) (by omega) rfl rfl ?_
    refine g_iload_n (i := 1) (by decide +kernel) rfl ?_
    refine g_cVI (st := _) (c_Sh_has (b := 1) hn sh_1 z1 ⟨hc.1, hc.2.1⟩) k_Sh_has l_Nc_117 (by decide +kernel) (by omega) rfl rfl rfl rfl (Nat.le_of_ble_eq_true rfl) (by decide) ⟨by decide, by decide⟩ ?_
    rintro a σ9 ⟨ea, hσ⟩
    obtain rfl := hσ.symm
    subst ea
    refine g_if_eq (off := 19) (tgt := 81) (by decide +kernel) (by decide) zbr (fun h62 => ?_) (fun h62 => ?_)
    · have h62 := zb0.mp h62
      refine g_aload_n (i := 0) (by decide +kernel) rfl ?_
      refine g_iconst (a := 2) (by decide +kernel) ?_
      refine g_cVI (st := _) (c_Nc_refuse hn) k_Nc_refuse l_Nc_97 (by decide +kernel) (by omega) rfl rfl rfl rfl (Nat.le_of_ble_eq_true rfl) (by decide) ⟨by decide, by decide⟩ ?_
      rintro a9 σ9 ⟨ea9, hσ9⟩
      obtain rfl := ea9.symm
      subst hσ9
      refine g_retI (by decide +kernel) rfl (Or.inl rfl) ⟨by decide, by decide⟩ ?_
      exact zAcC.no hc0 (by rw [if_neg c1, if_pos (by omega)]) (by decide)
    · have h62 := zb1.mp h62
      refine g_iload (i := 5) (by decide +kernel) rfl ?_
      refine g_if_eq (off := 20) (tgt := 87) (by decide +kernel) (by decide) ⟨by omega, by omega⟩ (fun h67 => ?_) (fun h67 => ?_)
      · exact J87 _ hv5 c1 (by omega)
      · refine g_aload_n (i := 0) (by decide +kernel) rfl ?_
        refine g_getr f_Nc_10 (by decide +kernel) (by omega) rfl rfl ?_
        refine g_iload_n (i := 3) (by decide +kernel) rfl ?_
        refine g_cVI (st := _) (c_Sh_has (b := 1) hn sh_1 z3 ⟨hc.1, hc.2.1⟩) k_Sh_has l_Nc_117 (by decide +kernel) (by omega) rfl rfl rfl rfl (Nat.le_of_ble_eq_true rfl) (by decide) ⟨by decide, by decide⟩ ?_
        rintro a σ9 ⟨ea, hσ⟩
        obtain rfl := hσ.symm
        subst ea
        refine g_if_ne (off := 9) (tgt := 87) (by decide +kernel) (by decide) zbr (fun h78 => ?_) (fun h78 => ?_)
        · have h78 := zb1.mp h78
          exact J87 _ hv5 c1 (by omega)
        · have h78 := zb0.mp h78
          refine g_aload_n (i := 0) (by decide +kernel) rfl ?_
          refine g_iconst (a := 2) (by decide +kernel) ?_
          refine g_cVI (st := _) (c_Nc_refuse hn) k_Nc_refuse l_Nc_97 (by decide +kernel) (by omega) rfl rfl rfl rfl (Nat.le_of_ble_eq_true rfl) (by decide) ⟨by decide, by decide⟩ ?_
          rintro a9 σ9 ⟨ea9, hσ9⟩
          obtain rfl := ea9.symm
          subst hσ9
          refine g_retI (by decide +kernel) rfl (Or.inl rfl) ⟨by decide, by decide⟩ ?_
          exact zAcC.no hc0 (by rw [if_neg c1, if_pos (by omega)]) (by decide)
  refine g_iload_n (i := 2) (by decide +kernel) rfl ?_
  refine g_if_lt (off := 30) (tgt := 31) (by decide +kernel) (by decide) ⟨by omega, by omega⟩ (fun h1 => ?_) (fun h1 => ?_)
  · refine g_aload_n (i := 0) (by decide +kernel) rfl ?_
    refine g_iconst (a := 1) (by decide +kernel) ?_
    refine g_cVI (st := _) (c_Nc_refuse hn) k_Nc_refuse l_Nc_97 (by decide +kernel) (by omega) rfl rfl rfl rfl (Nat.le_of_ble_eq_true rfl) (by decide) ⟨by decide, by decide⟩ ?_
    rintro a9 σ9 ⟨ea9, hσ9⟩
    obtain rfl := ea9.symm
    subst hσ9
    refine g_retI (by decide +kernel) rfl (Or.inl rfl) ⟨by decide, by decide⟩ ?_
    exact zAcC.no hc0 (if_pos (by omega)) (by decide)
  · refine g_iload_n (i := 2) (by decide +kernel) rfl ?_
    refine g_iconst (a := 3) (by decide +kernel) ?_
    refine g_icmp_gt (off := 25) (tgt := 31) (by decide +kernel) (by decide) ⟨by omega, by omega⟩ ⟨by omega, by omega⟩ (fun h6 => ?_) (fun h6 => ?_)
    · refine g_aload_n (i := 0) (by decide +kernel) rfl ?_
      refine g_iconst (a := 1) (by decide +kernel) ?_
      refine g_cVI (st := _) (c_Nc_refuse hn) k_Nc_refuse l_Nc_97 (by decide +kernel) (by omega) rfl rfl rfl rfl (Nat.le_of_ble_eq_true rfl) (by decide) ⟨by decide, by decide⟩ ?_
      rintro a9 σ9 ⟨ea9, hσ9⟩
      obtain rfl := ea9.symm
      subst hσ9
      refine g_retI (by decide +kernel) rfl (Or.inl rfl) ⟨by decide, by decide⟩ ?_
      exact zAcC.no hc0 (if_pos (by omega)) (by decide)
    · refine g_iload (i := 4) (by decide +kernel) rfl ?_
      refine g_if_lt (off := 20) (tgt := 31) (by decide +kernel) (by decide) ⟨by omega, by omega⟩ (fun h11 => ?_) (fun h11 => ?_)
      · refine g_aload_n (i := 0) (by decide +kernel) rfl ?_
        refine g_iconst (a := 1) (by decide +kernel) ?_
        refine g_cVI (st := _) (c_Nc_refuse hn) k_Nc_refuse l_Nc_97 (by decide +kernel) (by omega) rfl rfl rfl rfl (Nat.le_of_ble_eq_true rfl) (by decide) ⟨by decide, by decide⟩ ?_
        rintro a9 σ9 ⟨ea9, hσ9⟩
        obtain rfl := ea9.symm
        subst hσ9
        refine g_retI (by decide +kernel) rfl (Or.inl rfl) ⟨by decide, by decide⟩ ?_
        exact zAcC.no hc0 (if_pos (by omega)) (by decide)
      · refine g_iload (i := 4) (by decide +kernel) rfl ?_
        refine g_iload_n (i := 2) (by decide +kernel) rfl ?_
        refine g_iconst (a := 3) (by decide +kernel) ?_
        refine g_icmp_ne (off := 7) (tgt := 25) (by decide +kernel) (by decide) ⟨by omega, by omega⟩ ⟨by omega, by omega⟩ (fun h18 => ?_) (fun h18 => ?_)
        · refine g_sipush (a := 999) (by decide +kernel) (by decide) ?_
          refine g_icmp_le (off := 9) (tgt := 37) (by decide +kernel) (by decide) ⟨by omega, by omega⟩ ⟨by omega, by omega⟩ (fun h28 => ?_) (fun h28 => ?_)
          · refine g_iload_n (i := 2) (by decide +kernel) rfl ?_
            refine g_iconst (a := 1) (by decide +kernel) ?_
            refine g_icmp_eq (off := 8) (tgt := 47) (by decide +kernel) (by decide) ⟨by omega, by omega⟩ ⟨by omega, by omega⟩ (fun h39 => ?_) (fun h39 => ?_)
            · refine g_iconst (a := 1) (by decide +kernel) ?_
              refine g_goto (off := 4) (tgt := 52) (by decide +kernel) (by decide) ?_
              exact J52 _ (by omega) (by omega)
            · refine g_iload_n (i := 2) (by decide +kernel) rfl ?_
              refine g_iconst (a := 2) (by decide +kernel) ?_
              refine g_icmp_ne (off := 7) (tgt := 51) (by decide +kernel) (by decide) ⟨by omega, by omega⟩ ⟨by omega, by omega⟩ (fun h44 => ?_) (fun h44 => ?_)
              · refine g_iconst (a := 0) (by decide +kernel) ?_
                exact J52 _ (by omega) (by omega)
              · refine g_iconst (a := 1) (by decide +kernel) ?_
                refine g_goto (off := 4) (tgt := 52) (by decide +kernel) (by decide) ?_
                exact J52 _ (by omega) (by omega)
          · refine g_aload_n (i := 0) (by decide +kernel) rfl ?_
            refine g_iconst (a := 1) (by decide +kernel) ?_
            refine g_cVI (st := _) (c_Nc_refuse hn) k_Nc_refuse l_Nc_97 (by decide +kernel) (by omega) rfl rfl rfl rfl (Nat.le_of_ble_eq_true rfl) (by decide) ⟨by decide, by decide⟩ ?_
            rintro a9 σ9 ⟨ea9, hσ9⟩
            obtain rfl := ea9.symm
            subst hσ9
            refine g_retI (by decide +kernel) rfl (Or.inl rfl) ⟨by decide, by decide⟩ ?_
            exact zAcC.no hc0 (if_pos (by omega)) (by decide)
        · refine g_iconst (a := 3) (by decide +kernel) ?_
          refine g_goto (off := 6) (tgt := 28) (by decide +kernel) (by decide) ?_
          refine g_icmp_le (off := 9) (tgt := 37) (by decide +kernel) (by decide) ⟨by omega, by omega⟩ ⟨by omega, by omega⟩ (fun h28 => ?_) (fun h28 => ?_)
          · refine g_iload_n (i := 2) (by decide +kernel) rfl ?_
            refine g_iconst (a := 1) (by decide +kernel) ?_
            refine g_icmp_eq (off := 8) (tgt := 47) (by decide +kernel) (by decide) ⟨by omega, by omega⟩ ⟨by omega, by omega⟩ (fun h39 => ?_) (fun h39 => ?_)
            · refine g_iconst (a := 1) (by decide +kernel) ?_
              refine g_goto (off := 4) (tgt := 52) (by decide +kernel) (by decide) ?_
              exact J52 _ (by omega) (by omega)
            · refine g_iload_n (i := 2) (by decide +kernel) rfl ?_
              refine g_iconst (a := 2) (by decide +kernel) ?_
              refine g_icmp_ne (off := 7) (tgt := 51) (by decide +kernel) (by decide) ⟨by omega, by omega⟩ ⟨by omega, by omega⟩ (fun h44 => ?_) (fun h44 => ?_)
              · refine g_iconst (a := 0) (by decide +kernel) ?_
                exact J52 _ (by omega) (by omega)
              · refine g_iconst (a := 1) (by decide +kernel) ?_
                refine g_goto (off := 4) (tgt := 52) (by decide +kernel) (by decide) ?_
                exact J52 _ (by omega) (by omega)
          · refine g_aload_n (i := 0) (by decide +kernel) rfl ?_
            refine g_iconst (a := 1) (by decide +kernel) ?_
            refine g_cVI (st := _) (c_Nc_refuse hn) k_Nc_refuse l_Nc_97 (by decide +kernel) (by omega) rfl rfl rfl rfl (Nat.le_of_ble_eq_true rfl) (by decide) ⟨by decide, by decide⟩ ?_
            rintro a9 σ9 ⟨ea9, hσ9⟩
            obtain rfl := ea9.symm
            subst hσ9
            refine g_retI (by decide +kernel) rfl (Or.inl rfl) ⟨by decide, by decide⟩ ?_
            exact zAcC.no hc0 (if_pos (by omega)) (by decide)
