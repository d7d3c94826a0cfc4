theorem zOn.reel {σ : zSt} {j : Nat} {v : Int} (ho : zOn σ) : zOn (zs σ 182 j v) := zOn_eq (fun a ha => zs_other (by omega)) ho
theorem c_Nc_seek {G : zG} {n : Nat} {σ : zSt} {t : Int} (hn : 189 ≤ n) (ho : zOn σ) (hR : zRs (σ 93)) (z1 : zr t) : Gm G y_Nc_seek m_Nc_seek 5 0 0 [vr G 0, vi t] n SH σ (zI n SH (fun a σ' => (¬ (0 ≤ t ∧ t ≤ 1999) ∧ zRes σ σ' a 1 0) ∨ ((0 ≤ t ∧ t ≤ 1999) ∧ zRes (zs σ 182 0 t) σ' a 0 (zset (zSv σ 1) t 2 : Int)))) := by
  refine g_enter (L := [(0, _), (1, _)]) (by decide) rfl rfl rfl (Nat.le_of_ble_eq_true rfl) (fun X => ?_)
  have hc := ho.1.1
  obtain ⟨z1a, z1b⟩ := id z1
  obtain ⟨N, eN⟩ := Int.eq_ofNat_of_zero_le hc.1
  refine g_iload_n (i := 1) (by decide +kernel) rfl ?_
  refine g_cSI (st := _) (c_Nc_isTime (by assumption)) k_Nc_isTime l_Nc_187 (by decide +kernel) rfl rfl (Nat.le_of_ble_eq_true rfl) (by decide) ⟨by decide, by decide⟩ ?_
  rintro a σ9 ⟨ea, hσ⟩
  obtain rfl := hσ.symm
  subst ea
  refine g_if_ne (off := 9) (tgt := 13) (by decide +kernel) (by decide) zbr (fun h4 => ?_) (fun h4 => ?_)
  · have h4 := zb1.mp h4
    refine g_aload_n (i := 0) (by decide +kernel) rfl ?_
    refine g_getr f_Nc_73 (by decide +kernel) (by omega) rfl rfl ?_
    refine g_iload_n (i := 1) (by decide +kernel) rfl ?_
    refine g_puti f_Nc_218 (by decide +kernel) (by omega) rfl rfl ?_
    refine g_aload_n (i := 0) (by decide +kernel) rfl ?_
    refine g_aload_n (i := 0) (by decide +kernel) rfl ?_
    refine g_getr f_Nc_34 (by decide +kernel) (by omega) rfl rfl ?_
    refine g_iload_n (i := 1) (by decide +kernel) rfl ?_
    refine g_cVO (st := _) (c_Sg_at hn ho.reel h4) k_Sg_at l_Nc_255 (by decide +kernel) (by omega) rfl rfl rfl rfl (Nat.le_of_ble_eq_true rfl) (by decide) ⟨by decide, by decide⟩ ?_
    rintro q τ1 ⟨eq, hA⟩
    subst eq
    refine g_iconst (a := 2) (by decide +kernel) ?_
    refine g_aload_n (i := 0) (by decide +kernel) rfl ?_
    refine g_getr f_Nc_10 (by decide +kernel) (by omega) rfl rfl ?_
    refine g_geti f_Nc_111 (by decide +kernel) (by omega) rfl rfl ?_
    have eS : (zs σ 182 0 t) 1 = σ 1 := zs_other (by decide)
    have eT : τ1 1 0 = (N : Int) := by rw [hA.1 1 (by decide), eS]; exact eN
    rw [eT]
    refine g_cVI (st := _) (c_Mo_bitsOf (b := 34) (N := N) hn mo_34 (fun k hk => ((hA.on ho.reel).mr.2 k hk).1) (by omega) ⟨by decide, by decide⟩) k_Mo_bitsOf l_Nc_273 (by decide +kernel) (by omega) rfl rfl rfl rfl (Nat.le_of_ble_eq_true rfl) (by decide) ⟨by decide, by decide⟩ ?_
    rintro a σ9 ⟨ea, hσ⟩
    obtain rfl := hσ.symm
    have ea : a = (zset (zSv σ 1) t 2 : Int) := by
      rw [ea, ← zset_eq hA (by rw [eS]; omega)]
      unfold zset
      rw [zv_low (σ := σ) (fun a ha => zs_other (by omega)) ho t]
      rfl
    refine g_cVI (st := _) (c_Nc_give hn) k_Nc_give l_Nc_208 (by decide +kernel) (by omega) rfl rfl rfl rfl (Nat.le_of_ble_eq_true rfl) (by decide) ⟨by decide, by decide⟩ ?_
    rintro a9 σ9 ⟨ea9, hσ9⟩
    obtain rfl := ea9.symm
    subst hσ9
    refine g_retI (by decide +kernel) rfl (Or.inl rfl) ⟨by decide, by decide⟩ ?_
    exact Or.inr ⟨h4, zRes.ok (zQf.at hA ho.reel (by rw [zs_other (by decide)]; exact hR)) rfl ea.symm⟩
  · have h4 := zb0.mp h4
    refine g_aload_n (i := 0) (by decide +kernel) rfl ?_
    refine g_iconst (a := 1) (by decide +kernel) ?_
    refine g_cVI (st := _) (c_Nc_refuse hn) k_Nc_refuse l_Nc_97 (by decide +kernel) (by omega) rfl rfl rfl rfl (Nat.le_of_ble_eq_true rfl) (by decide) ⟨by decide, by decide⟩ ?_
    rintro a9 σ9 ⟨ea9, hσ9⟩
    obtain rfl := ea9.symm
    subst hσ9
    refine g_retI (by decide +kernel) rfl (Or.inl rfl) ⟨by decide, by decide⟩ ?_
    exact Or.inl ⟨h4, zRes.no (zQf.rf ho hR) rfl (by decide)⟩
theorem c_Nc_play {G : zG} {n : Nat} {σ : zSt} {u : Int} (hn : 189 ≤ n) (ho : zOn σ) (hR : zRs (σ 93)) (z1 : zr u) (h0 : 0 ≤ σ 182 0 ∧ σ 182 0 ≤ 1999) : Gm G y_Nc_play m_Nc_play 7 0 0 [vr G 0, vi u] n SH σ (zI n SH (fun a σ' => (¬ (1 ≤ u ∧ u ≤ 200 ∧ σ 182 0 + u ≤ 1999) ∧ zRes σ σ' a 1 0) ∨ ((1 ≤ u ∧ u ≤ 200 ∧ σ 182 0 + u ≤ 1999) ∧ ∃ τ, zGo σ τ u.toNat ∧ σ' = zs τ 0 10 0 ∧ a = ((zlog (zSv σ 1) (σ 182 0) u.toNat).length : Int)))) := by
  refine g_enter (L := [(0, _), (1, _)]) (by decide) rfl rfl rfl (Nat.le_of_ble_eq_true rfl) (fun X => ?_)
  have hc := ho.1.1
  obtain ⟨z1a, z1b⟩ := id z1
  refine g_iload_n (i := 1) (by decide +kernel) rfl ?_
  refine g_iconst (a := 1) (by decide +kernel) ?_
  refine g_icmp_lt (off := 25) (tgt := 27) (by decide +kernel) (by decide) ⟨by omega, by omega⟩ ⟨by omega, by omega⟩ (fun h2 => ?_) (fun h2 => ?_)
  · refine g_aload_n (i := 0) (by decide +kernel) rfl ?_
    refine g_iconst (a := 1) (by decide +kernel) ?_
    refine g_cVI (st := _) (c_Nc_refuse hn) k_Nc_refuse l_Nc_97 (by decide +kernel) (by omega) rfl rfl rfl rfl (Nat.le_of_ble_eq_true rfl) (by decide) ⟨by decide, by decide⟩ ?_
    rintro a9 σ9 ⟨ea9, hσ9⟩
    obtain rfl := ea9.symm
    subst hσ9
    refine g_retI (by decide +kernel) rfl (Or.inl rfl) ⟨by decide, by decide⟩ ?_
    exact Or.inl ⟨by omega, zRes.no (zQf.rf ho hR) rfl (by decide)⟩
  · refine g_iload_n (i := 1) (by decide +kernel) rfl ?_
    refine g_sipush (a := 200) (by decide +kernel) (by decide) ?_
    refine g_icmp_gt (off := 18) (tgt := 27) (by decide +kernel) (by decide) ⟨by omega, by omega⟩ ⟨by omega, by omega⟩ (fun h9 => ?_) (fun h9 => ?_)
    · refine g_aload_n (i := 0) (by decide +kernel) rfl ?_
      refine g_iconst (a := 1) (by decide +kernel) ?_
      refine g_cVI (st := _) (c_Nc_refuse hn) k_Nc_refuse l_Nc_97 (by decide +kernel) (by omega) rfl rfl rfl rfl (Nat.le_of_ble_eq_true rfl) (by decide) ⟨by decide, by decide⟩ ?_
      rintro a9 σ9 ⟨ea9, hσ9⟩
      obtain rfl := ea9.symm
      subst hσ9
      refine g_retI (by decide +kernel) rfl (Or.inl rfl) ⟨by decide, by decide⟩ ?_
      exact Or.inl ⟨by omega, zRes.no (zQf.rf ho hR) rfl (by decide)⟩
    · refine g_aload_n (i := 0) (by decide +kernel) rfl ?_
      refine g_getr f_Nc_73 (by decide +kernel) (by omega) rfl rfl ?_
      refine g_geti f_Nc_218 (by decide +kernel) (by omega) rfl rfl ?_
      refine g_iload_n (i := 1) (by decide +kernel) rfl ?_
      refine g_iadd (by decide +kernel) ?_
      refine g_sipush (a := 1999) (by decide +kernel) (by decide) ?_
      refine g_icmp_le (off := 9) (tgt := 33) (by decide +kernel) (by decide) ⟨by omega, by omega⟩ ⟨by omega, by omega⟩ (fun h24 => ?_) (fun h24 => ?_)
      · refine g_aload_n (i := 0) (by decide +kernel) rfl ?_
        refine g_getr f_Nc_73 (by decide +kernel) (by omega) rfl rfl ?_
        refine g_aload_n (i := 0) (by decide +kernel) rfl ?_
        refine g_getr f_Nc_34 (by decide +kernel) (by omega) rfl rfl ?_
        refine g_iload_n (i := 1) (by decide +kernel) rfl ?_
        obtain ⟨k, ek⟩ := Int.eq_ofNat_of_zero_le (show 0 ≤ u by omega)
        have ku : u.toNat = k := by omega
        rw [ek]
        refine g_cVV (st := _) (c_Re_goOn (c := k) hn ho ⟨by omega, by omega⟩ (by omega)) k_Re_goOn l_Nc_355 (by decide +kernel) (by omega) rfl rfl rfl rfl (Nat.le_of_ble_eq_true rfl) (by decide) ⟨by decide, by decide⟩ ?_
        rintro τ hg
        rw [← ek]
        rw [← ku] at hg
        refine g_aload_n (i := 0) (by decide +kernel) rfl ?_
        refine g_aload_n (i := 0) (by decide +kernel) rfl ?_
        refine g_getr f_Nc_73 (by decide +kernel) (by omega) rfl rfl ?_
        refine g_geti f_Nc_227 (by decide +kernel) (by omega) rfl rfl ?_
        refine g_cVI (st := _) (c_Nc_give hn) k_Nc_give l_Nc_208 (by decide +kernel) (by omega) rfl rfl rfl rfl (Nat.le_of_ble_eq_true rfl) (by decide) ⟨by decide, by decide⟩ ?_
        rintro a9 σ9 ⟨ea9, hσ9⟩
        obtain rfl := ea9.symm
        subst hσ9
        refine g_retI (by decide +kernel) rfl (Or.inl rfl) ⟨by decide, by decide⟩ ?_
        exact Or.inr ⟨by omega, τ, hg, rfl, hg.2.2.2.1⟩
      · refine g_aload_n (i := 0) (by decide +kernel) rfl ?_
        refine g_iconst (a := 1) (by decide +kernel) ?_
        refine g_cVI (st := _) (c_Nc_refuse hn) k_Nc_refuse l_Nc_97 (by decide +kernel) (by omega) rfl rfl rfl rfl (Nat.le_of_ble_eq_true rfl) (by decide) ⟨by decide, by decide⟩ ?_
        rintro a9 σ9 ⟨ea9, hσ9⟩
        obtain rfl := ea9.symm
        subst hσ9
        refine g_retI (by decide +kernel) rfl (Or.inl rfl) ⟨by decide, by decide⟩ ?_
        exact Or.inl ⟨by omega, zRes.no (zQf.rf ho hR) rfl (by decide)⟩
theorem c_Nc_event {G : zG} {n : Nat} {σ : zSt} {i w : Int} (hn : 189 ≤ n) (ho : zOn σ) (hR : zRs (σ 93)) (z1 : zr i) (z2 : zr w) (h1e : 0 ≤ σ 182 1 ∧ σ 182 1 ≤ 5000) : Gm G y_Nc_event m_Nc_event 1 0 0 [vr G 0, vi i, vi w] n SH σ (zI n SH (fun a σ' => zRes σ σ' a (if i < 0 ∨ 64 ≤ i ∨ w < 0 ∨ 3 < w then 1 else if σ 182 1 ≤ i then 8 else 0) (σ (183 + w.toNat) i.toNat))) := by
  refine g_enter (L := [(0, _), (1, _), (2, _)]) (by decide) rfl rfl rfl (Nat.le_of_ble_eq_true rfl) (fun X => ?_)
  have hc := ho.1.1
  obtain ⟨z1a, z1b⟩ := id z1
  obtain ⟨z2a, z2b⟩ := id z2
  refine g_iload_n (i := 1) (by decide +kernel) rfl ?_
  refine g_if_lt (off := 18) (tgt := 19) (by decide +kernel) (by decide) ⟨by omega, by omega⟩ (fun h1 => ?_) (fun h1 => ?_)
  · refine g_aload_n (i := 0) (by decide +kernel) rfl ?_
    refine g_iconst (a := 1) (by decide +kernel) ?_
    refine g_cVI (st := _) (c_Nc_refuse hn) k_Nc_refuse l_Nc_97 (by decide +kernel) (by omega) rfl rfl rfl rfl (Nat.le_of_ble_eq_true rfl) (by decide) ⟨by decide, by decide⟩ ?_
    rintro a9 σ9 ⟨ea9, hσ9⟩
    obtain rfl := ea9.symm
    subst hσ9
    refine g_retI (by decide +kernel) rfl (Or.inl rfl) ⟨by decide, by decide⟩ ?_
    exact zRes.no (zQf.rf ho hR) (if_pos (by omega)) (by decide)
  · refine g_iload_n (i := 1) (by decide +kernel) rfl ?_
    refine g_bipush (a := 64) (by decide +kernel) (by decide) ?_
    refine g_icmp_ge (off := 12) (tgt := 19) (by decide +kernel) (by decide) ⟨by omega, by omega⟩ ⟨by omega, by omega⟩ (fun h7 => ?_) (fun h7 => ?_)
    · refine g_aload_n (i := 0) (by decide +kernel) rfl ?_
      refine g_iconst (a := 1) (by decide +kernel) ?_
      refine g_cVI (st := _) (c_Nc_refuse hn) k_Nc_refuse l_Nc_97 (by decide +kernel) (by omega) rfl rfl rfl rfl (Nat.le_of_ble_eq_true rfl) (by decide) ⟨by decide, by decide⟩ ?_
      rintro a9 σ9 ⟨ea9, hσ9⟩
      obtain rfl := ea9.symm
      subst hσ9
      refine g_retI (by decide +kernel) rfl (Or.inl rfl) ⟨by decide, by decide⟩ ?_
      exact zRes.no (zQf.rf ho hR) (if_pos (by omega)) (by decide)
    · refine g_iload_n (i := 2) (by decide +kernel) rfl ?_
      refine g_if_lt (off := 8) (tgt := 19) (by decide +kernel) (by decide) ⟨by omega, by omega⟩ (fun h11 => ?_) (fun h11 => ?_)
      · refine g_aload_n (i := 0) (by decide +kernel) rfl ?_
        refine g_iconst (a := 1) (by decide +kernel) ?_
        refine g_cVI (st := _) (c_Nc_refuse hn) k_Nc_refuse l_Nc_97 (by decide +kernel) (by omega) rfl rfl rfl rfl (Nat.le_of_ble_eq_true rfl) (by decide) ⟨by decide, by decide⟩ ?_
        rintro a9 σ9 ⟨ea9, hσ9⟩
        obtain rfl := ea9.symm
        subst hσ9
        refine g_retI (by decide +kernel) rfl (Or.inl rfl) ⟨by decide, by decide⟩ ?_
        exact zRes.no (zQf.rf ho hR) (if_pos (by omega)) (by decide)
      · refine g_iload_n (i := 2) (by decide +kernel) rfl ?_
        refine g_iconst (a := 3) (by decide +kernel) ?_
        refine g_icmp_le (off := 9) (tgt := 25) (by decide +kernel) (by decide) ⟨by omega, by omega⟩ ⟨by omega, by omega⟩ (fun h16 => ?_) (fun h16 => ?_)
        · refine g_iload_n (i := 1) (by decide +kernel) rfl ?_
          refine g_aload_n (i := 0) (by decide +kernel) rfl ?_
          refine g_getr f_Nc_73 (by decide +kernel) (by omega) rfl rfl ?_
          refine g_geti f_Nc_227 (by decide +kernel) (by omega) rfl rfl ?_
          refine g_icmp_lt (off := 10) (tgt := 43) (by decide +kernel) (by decide) ⟨by omega, by omega⟩ ⟨by omega, by omega⟩ (fun h33 => ?_) (fun h33 => ?_)
          · refine g_iload_n (i := 2) (by decide +kernel) rfl ?_
            rcases (by omega : w = 0 ∨ w = 1 ∨ w = 2 ∨ (w < 0 ∨ 2 < w)) with h44 | h44 | h44 | h44
            · refine g_tableIn (dflt := 70) (lo := 0) (hi := 2) (offs := #[28, 42, 56]) (len := 28) (off := 28) (tgt := 72) (by decide +kernel) ⟨by omega, by omega⟩ (by omega) (by omega) (by rw [h44]; rfl) (by decide) ?_
              refine g_aload_n (i := 0) (by decide +kernel) rfl ?_
              refine g_aload_n (i := 0) (by decide +kernel) rfl ?_
              refine g_getr f_Nc_73 (by decide +kernel) (by omega) rfl rfl ?_
              refine g_getr f_Nc_359 (by decide +kernel) (by omega) rfl rfl ?_
              refine g_iload_n (i := 1) (by decide +kernel) rfl ?_
              refine g_iald (j := i.toNat) (by decide +kernel) (by omega) rfl (by omega) (by omega) (by decide) ?_
              refine g_cVI (st := _) (c_Nc_give hn) k_Nc_give l_Nc_208 (by decide +kernel) (by omega) rfl rfl rfl rfl (Nat.le_of_ble_eq_true rfl) (by decide) ⟨by decide, by decide⟩ ?_
              rintro a9 σ9 ⟨ea9, hσ9⟩
              obtain rfl := ea9.symm
              subst hσ9
              refine g_retI (by decide +kernel) rfl (Or.inl rfl) ⟨by decide, by decide⟩ ?_
              exact zRes.ok (zQf.rf ho hR) (by rw [if_neg (by omega), if_neg (by omega)]) (by rw [show w.toNat = 0 by omega])
            · refine g_tableIn (dflt := 70) (lo := 0) (hi := 2) (offs := #[28, 42, 56]) (len := 28) (off := 42) (tgt := 86) (by decide +kernel) ⟨by omega, by omega⟩ (by omega) (by omega) (by rw [h44]; rfl) (by decide) ?_
              refine g_aload_n (i := 0) (by decide +kernel) rfl ?_
              refine g_aload_n (i := 0) (by decide +kernel) rfl ?_
              refine g_getr f_Nc_73 (by decide +kernel) (by omega) rfl rfl ?_
              refine g_getr f_Nc_360 (by decide +kernel) (by omega) rfl rfl ?_
              refine g_iload_n (i := 1) (by decide +kernel) rfl ?_
              refine g_iald (j := i.toNat) (by decide +kernel) (by omega) rfl (by omega) (by omega) (by decide) ?_
              refine g_cVI (st := _) (c_Nc_give hn) k_Nc_give l_Nc_208 (by decide +kernel) (by omega) rfl rfl rfl rfl (Nat.le_of_ble_eq_true rfl) (by decide) ⟨by decide, by decide⟩ ?_
              rintro a9 σ9 ⟨ea9, hσ9⟩
              obtain rfl := ea9.symm
              subst hσ9
              refine g_retI (by decide +kernel) rfl (Or.inl rfl) ⟨by decide, by decide⟩ ?_
              exact zRes.ok (zQf.rf ho hR) (by rw [if_neg (by omega), if_neg (by omega)]) (by rw [show w.toNat = 1 by omega])
            · refine g_tableIn (dflt := 70) (lo := 0) (hi := 2) (offs := #[28, 42, 56]) (len := 28) (off := 56) (tgt := 100) (by decide +kernel) ⟨by omega, by omega⟩ (by omega) (by omega) (by rw [h44]; rfl) (by decide) ?_
              refine g_aload_n (i := 0) (by decide +kernel) rfl ?_
              refine g_aload_n (i := 0) (by decide +kernel) rfl ?_
              refine g_getr f_Nc_73 (by decide +kernel) (by omega) rfl rfl ?_
              refine g_getr f_Nc_363 (by decide +kernel) (by omega) rfl rfl ?_
              refine g_iload_n (i := 1) (by decide +kernel) rfl ?_
              refine g_iald (j := i.toNat) (by decide +kernel) (by omega) rfl (by omega) (by omega) (by decide) ?_
              refine g_cVI (st := _) (c_Nc_give hn) k_Nc_give l_Nc_208 (by decide +kernel) (by omega) rfl rfl rfl rfl (Nat.le_of_ble_eq_true rfl) (by decide) ⟨by decide, by decide⟩ ?_
              rintro a9 σ9 ⟨ea9, hσ9⟩
              obtain rfl := ea9.symm
              subst hσ9
              refine g_retI (by decide +kernel) rfl (Or.inl rfl) ⟨by decide, by decide⟩ ?_
              exact zRes.ok (zQf.rf ho hR) (by rw [if_neg (by omega), if_neg (by omega)]) (by rw [show w.toNat = 2 by omega])
            · refine g_tableOut (dflt := 70) (lo := 0) (hi := 2) (offs := #[28, 42, 56]) (len := 28) (tgt := 114) (by decide +kernel) ⟨by omega, by omega⟩ h44 (by decide) ?_
              refine g_aload_n (i := 0) (by decide +kernel) rfl ?_
              refine g_aload_n (i := 0) (by decide +kernel) rfl ?_
              refine g_getr f_Nc_73 (by decide +kernel) (by omega) rfl rfl ?_
              refine g_getr f_Nc_366 (by decide +kernel) (by omega) rfl rfl ?_
              refine g_iload_n (i := 1) (by decide +kernel) rfl ?_
              refine g_iald (j := i.toNat) (by decide +kernel) (by omega) rfl (by omega) (by omega) (by decide) ?_
              refine g_cVI (st := _) (c_Nc_give hn) k_Nc_give l_Nc_208 (by decide +kernel) (by omega) rfl rfl rfl rfl (Nat.le_of_ble_eq_true rfl) (by decide) ⟨by decide, by decide⟩ ?_
              rintro a9 σ9 ⟨ea9, hσ9⟩
              obtain rfl := ea9.symm
              subst hσ9
              refine g_retI (by decide +kernel) rfl (Or.inl rfl) ⟨by decide, by decide⟩ ?_
              exact zRes.ok (zQf.rf ho hR) (by rw [if_neg (by omega), if_neg (by omega)]) (by rw [show w.toNat = 3 by omega])
          · refine g_aload_n (i := 0) (by decide +kernel) rfl ?_
            refine g_bipush (a := 8) (by decide +kernel) (by decide) ?_
            refine g_cVI (st := _) (c_Nc_refuse hn) k_Nc_refuse l_Nc_97 (by decide +kernel) (by omega) rfl rfl rfl rfl (Nat.le_of_ble_eq_true rfl) (by decide) ⟨by decide, by decide⟩ ?_
            rintro a9 σ9 ⟨ea9, hσ9⟩
            obtain rfl := ea9.symm
            subst hσ9
            refine g_retI (by decide +kernel) rfl (Or.inl rfl) ⟨by decide, by decide⟩ ?_
            exact zRes.no (zQf.rf ho hR) (by rw [if_neg (by omega), if_pos (by omega)]) (by decide)
        · refine g_aload_n (i := 0) (by decide +kernel) rfl ?_
          refine g_iconst (a := 1) (by decide +kernel) ?_
          refine g_cVI (st := _) (c_Nc_refuse hn) k_Nc_refuse l_Nc_97 (by decide +kernel) (by omega) rfl rfl rfl rfl (Nat.le_of_ble_eq_true rfl) (by decide) ⟨by decide, by decide⟩ ?_
          rintro a9 σ9 ⟨ea9, hσ9⟩
          obtain rfl := ea9.symm
          subst hσ9
          refine g_retI (by decide +kernel) rfl (Or.inl rfl) ⟨by decide, by decide⟩ ?_
          exact zRes.no (zQf.rf ho hR) (if_pos (by omega)) (by decide)
/-- what clip() tells of clip k -/
noncomputable def zclp (S : zSt) (k : Nat) (w : Int) : Int := if w = 0 then S 1 k else if w = 1 then S 2 k else if w = 2 then S 3 k else if w = 3 then (zcnt (fun j => decide (S 2 j = (k : Int))) (zN S) : Int) else if w ≤ 9 then S 7 (9 * k + (w - 4).toNat) else if w = 10 then S 4 k else if w = 11 then S 5 k else if w = 12 then S 6 k else if w = 13 then (zsa S).1 k else if w = 14 then (zsa S).2 k else if w = 15 then (if zOk S k = true then 1 else 0) else S 7 (9 * k + (w - 10).toNat)
theorem c_Nc_clip {G : zG} {n : Nat} {σ : zSt} {c w : Int} (hn : 189 ≤ n) (ho : zOn σ) (hR : zRs (σ 93)) (z1 : zr c) (z2 : zr w) : Gm G y_Nc_clip m_Nc_clip 1 0 0 [vr G 0, vi c, vi w] n SH σ (zI n SH (fun a σ' => zRes σ σ' a (if w < 0 ∨ 18 < w then 1 else if ¬ (0 ≤ c ∧ c < σ 1 0) then 2 else 0) (zclp (zSv σ 1) c.toNat w))) := by
  refine g_enter (L := [(0, _), (1, _), (2, _)]) (by decide) rfl rfl rfl (Nat.le_of_ble_eq_true rfl) (fun X => ?_)
  have hc := ho.1.1
  obtain ⟨z1a, z1b⟩ := id z1
  obtain ⟨z2a, z2b⟩ := id z2
  refine g_iload_n (i := 2) (by decide +kernel) rfl ?_
  refine g_if_lt (off := 9) (tgt := 10) (by decide +kernel) (by decide) ⟨by omega, by omega⟩ (fun h1 => ?_) (fun h1 => ?_)
  · refine g_aload_n (i := 0) (by decide +kernel) rfl ?_
    refine g_iconst (a := 1) (by decide +kernel) ?_
    refine g_cVI (st := _) (c_Nc_refuse hn) k_Nc_refuse l_Nc_97 (by decide +kernel) (by omega) rfl rfl rfl rfl (Nat.le_of_ble_eq_true rfl) (by decide) ⟨by decide, by decide⟩ ?_
    rintro a9 σ9 ⟨ea9, hσ9⟩
    obtain rfl := ea9.symm
    subst hσ9
    refine g_retI (by decide +kernel) rfl (Or.inl rfl) ⟨by decide, by decide⟩ ?_
    exact zRes.no (zQf.rf ho hR) (if_pos (by omega)) (by decide)
  · refine g_iload_n (i := 2) (by decide +kernel) rfl ?_
    refine g_bipush (a := 18) (by decide +kernel) (by decide) ?_
    refine g_icmp_le (off := 9) (tgt := 16) (by decide +kernel) (by decide) ⟨by omega, by omega⟩ ⟨by omega, by omega⟩ (fun h7 => ?_) (fun h7 => ?_)
    · refine g_aload_n (i := 0) (by decide +kernel) rfl ?_
      refine g_getr f_Nc_10 (by decide +kernel) (by omega) rfl rfl ?_
      refine g_iload_n (i := 1) (by decide +kernel) rfl ?_
      refine g_cVI (st := _) (c_Sh_has (b := 1) hn sh_1 (by assumption) ⟨hc.1, hc.2.1⟩) k_Sh_has l_Nc_117 (by decide +kernel) (by omega) rfl rfl rfl rfl (Nat.le_of_ble_eq_true rfl) (by decide) ⟨by decide, by decide⟩ ?_
      rintro a σ9 ⟨ea, hσ⟩
      obtain rfl := hσ.symm
      subst ea
      refine g_if_ne (off := 9) (tgt := 33) (by decide +kernel) (by decide) zbr (fun h24 => ?_) (fun h24 => ?_)
      · have h24 := zb1.mp h24
        have e26 := ho.opn (k := c.toNat) (by omega)
        have q26 := ho.2.2.1.2.2.1 c.toNat (by omega)
        have q26 : σ 26 c.toNat = 0 ∨ σ 26 c.toNat = 1 := q26
        refine g_iload_n (i := 2) (by decide +kernel) rfl ?_
        refine g_iconst (a := 4) (by decide +kernel) ?_
        refine g_icmp_lt (off := 25) (tgt := 60) (by decide +kernel) (by decide) ⟨by omega, by omega⟩ ⟨by omega, by omega⟩ (fun h35 => ?_) (fun h35 => ?_)
        · refine g_iload_n (i := 2) (by decide +kernel) rfl ?_
          refine g_bipush (a := 16) (by decide +kernel) (by decide) ?_
          refine g_icmp_lt (off := 23) (tgt := 86) (by decide +kernel) (by decide) ⟨by omega, by omega⟩ ⟨by omega, by omega⟩ (fun h63 => ?_) (fun h63 => ?_)
          · refine g_iload_n (i := 2) (by decide +kernel) rfl ?_
            rcases (by omega : w = 0 ∨ w = 1 ∨ w = 2 ∨ w = 3 ∨ w = 4 ∨ w = 5 ∨ w = 6 ∨ w = 7 ∨ w = 8 ∨ w = 9 ∨ w = 10 ∨ w = 11 ∨ w = 12 ∨ w = 13 ∨ w = 14 ∨ (w < 0 ∨ 14 < w)) with h87 | h87 | h87 | h87 | h87 | h87 | h87 | h87 | h87 | h87 | h87 | h87 | h87 | h87 | h87 | h87
            · refine g_tableIn (dflt := 198) (lo := 0) (hi := 14) (offs := #[73, 87, 101, 115, 198, 198, 198, 198, 198, 198, 128, 142, 156, 170, 184]) (len := 73) (off := 73) (tgt := 160) (by decide +kernel) ⟨by omega, by omega⟩ (by omega) (by omega) (by rw [h87]; rfl) (by decide) ?_
              refine g_aload_n (i := 0) (by decide +kernel) rfl ?_
              refine g_aload_n (i := 0) (by decide +kernel) rfl ?_
              refine g_getr f_Nc_10 (by decide +kernel) (by omega) rfl rfl ?_
              refine g_getr f_Nc_124 (by decide +kernel) (by omega) rfl rfl ?_
              refine g_iload_n (i := 1) (by decide +kernel) rfl ?_
              refine g_iald (j := c.toNat) (by decide +kernel) (by omega) rfl (by omega) (by omega) (by decide) ?_
              refine g_cVI (st := _) (c_Nc_give hn) k_Nc_give l_Nc_208 (by decide +kernel) (by omega) rfl rfl rfl rfl (Nat.le_of_ble_eq_true rfl) (by decide) ⟨by decide, by decide⟩ ?_
              rintro a9 σ9 ⟨ea9, hσ9⟩
              obtain rfl := ea9.symm
              subst hσ9
              refine g_retI (by decide +kernel) rfl (Or.inl rfl) ⟨by decide, by decide⟩ ?_
              exact zRes.ok (zQf.rf ho hR) (by rw [if_neg (by omega), if_neg (by omega)]) (by unfold zclp; rw [if_pos (by omega)]; rfl)
            · refine g_tableIn (dflt := 198) (lo := 0) (hi := 14) (offs := #[73, 87, 101, 115, 198, 198, 198, 198, 198, 198, 128, 142, 156, 170, 184]) (len := 73) (off := 87) (tgt := 174) (by decide +kernel) ⟨by omega, by omega⟩ (by omega) (by omega) (by rw [h87]; rfl) (by decide) ?_
              refine g_aload_n (i := 0) (by decide +kernel) rfl ?_
              refine g_aload_n (i := 0) (by decide +kernel) rfl ?_
              refine g_getr f_Nc_10 (by decide +kernel) (by omega) rfl rfl ?_
              refine g_getr f_Nc_142 (by decide +kernel) (by omega) rfl rfl ?_
              refine g_iload_n (i := 1) (by decide +kernel) rfl ?_
              refine g_iald (j := c.toNat) (by decide +kernel) (by omega) rfl (by omega) (by omega) (by decide) ?_
              refine g_cVI (st := _) (c_Nc_give hn) k_Nc_give l_Nc_208 (by decide +kernel) (by omega) rfl rfl rfl rfl (Nat.le_of_ble_eq_true rfl) (by decide) ⟨by decide, by decide⟩ ?_
              rintro a9 σ9 ⟨ea9, hσ9⟩
              obtain rfl := ea9.symm
              subst hσ9
              refine g_retI (by decide +kernel) rfl (Or.inl rfl) ⟨by decide, by decide⟩ ?_
              exact zRes.ok (zQf.rf ho hR) (by rw [if_neg (by omega), if_neg (by omega)]) (by unfold zclp; rw [if_neg (by omega), if_pos (by omega)]; rfl)
            · refine g_tableIn (dflt := 198) (lo := 0) (hi := 14) (offs := #[73, 87, 101, 115, 198, 198, 198, 198, 198, 198, 128, 142, 156, 170, 184]) (len := 73) (off := 101) (tgt := 188) (by decide +kernel) ⟨by omega, by omega⟩ (by omega) (by omega) (by rw [h87]; rfl) (by decide) ?_
              refine g_aload_n (i := 0) (by decide +kernel) rfl ?_
              refine g_aload_n (i := 0) (by decide +kernel) rfl ?_
              refine g_getr f_Nc_10 (by decide +kernel) (by omega) rfl rfl ?_
              refine g_getr f_Nc_148 (by decide +kernel) (by omega) rfl rfl ?_
              refine g_iload_n (i := 1) (by decide +kernel) rfl ?_
              refine g_iald (j := c.toNat) (by decide +kernel) (by omega) rfl (by omega) (by omega) (by decide) ?_
              refine g_cVI (st := _) (c_Nc_give hn) k_Nc_give l_Nc_208 (by decide +kernel) (by omega) rfl rfl rfl rfl (Nat.le_of_ble_eq_true rfl) (by decide) ⟨by decide, by decide⟩ ?_
              rintro a9 σ9 ⟨ea9, hσ9⟩
              obtain rfl := ea9.symm
              subst hσ9
              refine g_retI (by decide +kernel) rfl (Or.inl rfl) ⟨by decide, by decide⟩ ?_
              exact zRes.ok (zQf.rf ho hR) (by rw [if_neg (by omega), if_neg (by omega)]) (by unfold zclp; rw [if_neg (by omega), if_neg (by omega), if_pos (by omega)]; rfl)
            · refine g_tableIn (dflt := 198) (lo := 0) (hi := 14) (offs := #[73, 87, 101, 115, 198, 198, 198, 198, 198, 198, 128, 142, 156, 170, 184]) (len := 73) (off := 115) (tgt := 202) (by decide +kernel) ⟨by omega, by omega⟩ (by omega) (by omega) (by rw [h87]; rfl) (by decide) ?_
              refine g_aload_n (i := 0) (by decide +kernel) rfl ?_
              refine g_aload_n (i := 0) (by decide +kernel) rfl ?_
              refine g_getr f_Nc_10 (by decide +kernel) (by omega) rfl rfl ?_
              refine g_iload_n (i := 1) (by decide +kernel) rfl ?_
              refine g_cVI (st := _) (c_Sh_howManyIn (b := 1) hn sh_1 ho.1 z1) k_Sh_howManyIn l_Nc_145 (by decide +kernel) (by omega) rfl rfl rfl rfl (Nat.le_of_ble_eq_true rfl) (by decide) ⟨by decide, by decide⟩ ?_
              rintro a σ9 ⟨ea, hσ⟩
              obtain rfl := hσ.symm
              have ea : a = (zcnt (fun j => decide (σ 3 j = c)) (σ 1 0).toNat : Int) := ea
              refine g_cVI (st := _) (c_Nc_give hn) k_Nc_give l_Nc_208 (by decide +kernel) (by omega) rfl rfl rfl rfl (Nat.le_of_ble_eq_true rfl) (by decide) ⟨by decide, by decide⟩ ?_
              rintro a9 σ9 ⟨ea9, hσ9⟩
              obtain rfl := ea9.symm
              subst hσ9
              refine g_retI (by decide +kernel) rfl (Or.inl rfl) ⟨by decide, by decide⟩ ?_
              exact zRes.ok (zQf.rf ho hR) (by rw [if_neg (by omega), if_neg (by omega)]) (by unfold zclp; rw [if_neg (by omega), if_neg (by omega), if_neg (by omega), if_pos (by omega)]; rw [show ((c.toNat : Nat) : Int) = c by omega]; exact ea.symm)
            · refine g_tableIn (dflt := 198) (lo := 0) (hi := 14) (offs := #[73, 87, 101, 115, 198, 198, 198, 198, 198, 198, 128, 142, 156, 170, 184]) (len := 73) (off := 198) (tgt := 285) (by decide +kernel) ⟨by omega, by omega⟩ (by omega) (by omega) (by rw [h87]; rfl) (by decide) ?_
              refine g_aload_n (i := 0) (by decide +kernel) rfl ?_
              refine g_aload_n (i := 0) (by decide +kernel) rfl ?_
              refine g_getr f_Nc_22 (by decide +kernel) (by omega) rfl rfl ?_
              refine g_getr f_Nc_236 (by decide +kernel) (by omega) rfl rfl ?_
              refine g_iload_n (i := 1) (by decide +kernel) rfl ?_
              refine g_zald (j := c.toNat) (by decide +kernel) (by omega) rfl (by omega) (by omega) (by decide) ?_
              refine g_if_eq (off := 7) (tgt := 302) (by decide +kernel) (by decide) ⟨by omega, by omega⟩ (fun h295 => ?_) (fun h295 => ?_)
              · refine g_iconst (a := 0) (by decide +kernel) ?_
                refine g_cVI (st := _) (c_Nc_give hn) k_Nc_give l_Nc_208 (by decide +kernel) (by omega) rfl rfl rfl rfl (Nat.le_of_ble_eq_true rfl) (by decide) ⟨by decide, by decide⟩ ?_
                rintro a9 σ9 ⟨ea9, hσ9⟩
                obtain rfl := ea9.symm
                subst hσ9
                refine g_retI (by decide +kernel) rfl (Or.inl rfl) ⟨by decide, by decide⟩ ?_
                refine zRes.ok (zQf.rf ho hR) (by rw [if_neg (by omega), if_neg (by omega)]) ?_
                unfold zclp
                rw [if_neg (by omega), if_neg (by omega), if_neg (by omega), if_neg (by omega), if_neg (by omega), if_neg (by omega), if_neg (by omega), if_neg (by omega), if_neg (by omega), if_neg (by omega), if_pos (by omega), ← e26]
                omega
              · refine g_iconst (a := 1) (by decide +kernel) ?_
                refine g_goto (off := 4) (tgt := 303) (by decide +kernel) (by decide) ?_
                refine g_cVI (st := _) (c_Nc_give hn) k_Nc_give l_Nc_208 (by decide +kernel) (by omega) rfl rfl rfl rfl (Nat.le_of_ble_eq_true rfl) (by decide) ⟨by decide, by decide⟩ ?_
                rintro a9 σ9 ⟨ea9, hσ9⟩
                obtain rfl := ea9.symm
                subst hσ9
                refine g_retI (by decide +kernel) rfl (Or.inl rfl) ⟨by decide, by decide⟩ ?_
                refine zRes.ok (zQf.rf ho hR) (by rw [if_neg (by omega), if_neg (by omega)]) ?_
                unfold zclp
                rw [if_neg (by omega), if_neg (by omega), if_neg (by omega), if_neg (by omega), if_neg (by omega), if_neg (by omega), if_neg (by omega), if_neg (by omega), if_neg (by omega), if_neg (by omega), if_pos (by omega), ← e26]
                omega
            · refine g_tableIn (dflt := 198) (lo := 0) (hi := 14) (offs := #[73, 87, 101, 115, 198, 198, 198, 198, 198, 198, 128, 142, 156, 170, 184]) (len := 73) (off := 198) (tgt := 285) (by decide +kernel) ⟨by omega, by omega⟩ (by omega) (by omega) (by rw [h87]; rfl) (by decide) ?_
              refine g_aload_n (i := 0) (by decide +kernel) rfl ?_
              refine g_aload_n (i := 0) (by decide +kernel) rfl ?_
              refine g_getr f_Nc_22 (by decide +kernel) (by omega) rfl rfl ?_
              refine g_getr f_Nc_236 (by decide +kernel) (by omega) rfl rfl ?_
              refine g_iload_n (i := 1) (by decide +kernel) rfl ?_
              refine g_zald (j := c.toNat) (by decide +kernel) (by omega) rfl (by omega) (by omega) (by decide) ?_
              refine g_if_eq (off := 7) (tgt := 302) (by decide +kernel) (by decide) ⟨by omega, by omega⟩ (fun h295 => ?_) (fun h295 => ?_)
              · refine g_iconst (a := 0) (by decide +kernel) ?_
                refine g_cVI (st := _) (c_Nc_give hn) k_Nc_give l_Nc_208 (by decide +kernel) (by omega) rfl rfl rfl rfl (Nat.le_of_ble_eq_true rfl) (by decide) ⟨by decide, by decide⟩ ?_
                rintro a9 σ9 ⟨ea9, hσ9⟩
                obtain rfl := ea9.symm
                subst hσ9
                refine g_retI (by decide +kernel) rfl (Or.inl rfl) ⟨by decide, by decide⟩ ?_
                refine zRes.ok (zQf.rf ho hR) (by rw [if_neg (by omega), if_neg (by omega)]) ?_
                unfold zclp
                rw [if_neg (by omega), if_neg (by omega), if_neg (by omega), if_neg (by omega), if_neg (by omega), if_neg (by omega), if_neg (by omega), if_neg (by omega), if_neg (by omega), if_neg (by omega), if_pos (by omega), ← e26]
                omega
              · refine g_iconst (a := 1) (by decide +kernel) ?_
                refine g_goto (off := 4) (tgt := 303) (by decide +kernel) (by decide) ?_
                refine g_cVI (st := _) (c_Nc_give hn) k_Nc_give l_Nc_208 (by decide +kernel) (by omega) rfl rfl rfl rfl (Nat.le_of_ble_eq_true rfl) (by decide) ⟨by decide, by decide⟩ ?_
                rintro a9 σ9 ⟨ea9, hσ9⟩
                obtain rfl := ea9.symm
                subst hσ9
                refine g_retI (by decide +kernel) rfl (Or.inl rfl) ⟨by decide, by decide⟩ ?_
                refine zRes.ok (zQf.rf ho hR) (by rw [if_neg (by omega), if_neg (by omega)]) ?_
                unfold zclp
                rw [if_neg (by omega), if_neg (by omega), if_neg (by omega), if_neg (by omega), if_neg (by omega), if_neg (by omega), if_neg (by omega), if_neg (by omega), if_neg (by omega), if_neg (by omega), if_pos (by omega), ← e26]
                omega
            · refine g_tableIn (dflt := 198) (lo := 0) (hi := 14) (offs := #[73, 87, 101, 115, 198, 198, 198, 198, 198, 198, 128, 142, 156, 170, 184]) (len := 73) (off := 198) (tgt := 285) (by decide +kernel) ⟨by omega, by omega⟩ (by omega) (by omega) (by rw [h87]; rfl) (by decide) ?_
              refine g_aload_n (i := 0) (by decide +kernel) rfl ?_
              refine g_aload_n (i := 0) (by decide +kernel) rfl ?_
              refine g_getr f_Nc_22 (by decide +kernel) (by omega) rfl rfl ?_
              refine g_getr f_Nc_236 (by decide +kernel) (by omega) rfl rfl ?_
              refine g_iload_n (i := 1) (by decide +kernel) rfl ?_
              refine g_zald (j := c.toNat) (by decide +kernel) (by omega) rfl (by omega) (by omega) (by decide) ?_
              refine g_if_eq (off := 7) (tgt := 302) (by decide +kernel) (by decide) ⟨by omega, by omega⟩ (fun h295 => ?_) (fun h295 => ?_)
              · refine g_iconst (a := 0) (by decide +kernel) ?_
                refine g_cVI (st := _) (c_Nc_give hn) k_Nc_give l_Nc_208 (by decide +kernel) (by omega) rfl rfl rfl rfl (Nat.le_of_ble_eq_true rfl) (by decide) ⟨by decide, by decide⟩ ?_
                rintro a9 σ9 ⟨ea9, hσ9⟩
                obtain rfl := ea9.symm
                subst hσ9
                refine g_retI (by decide +kernel) rfl (Or.inl rfl) ⟨by decide, by decide⟩ ?_
                refine zRes.ok (zQf.rf ho hR) (by rw [if_neg (by omega), if_neg (by omega)]) ?_
                unfold zclp
                rw [if_neg (by omega), if_neg (by omega), if_neg (by omega), if_neg (by omega), if_neg (by omega), if_neg (by omega), if_neg (by omega), if_neg (by omega), if_neg (by omega), if_neg (by omega), if_pos (by omega), ← e26]
                omega
              · refine g_iconst (a := 1) (by decide +kernel) ?_
                refine g_goto (off := 4) (tgt := 303) (by decide +kernel) (by decide) ?_
                refine g_cVI (st := _) (c_Nc_give hn) k_Nc_give l_Nc_208 (by decide +kernel) (by omega) rfl rfl rfl rfl (Nat.le_of_ble_eq_true rfl) (by decide) ⟨by decide, by decide⟩ ?_
                rintro a9 σ9 ⟨ea9, hσ9⟩
                obtain rfl := ea9.symm
                subst hσ9
                refine g_retI (by decide +kernel) rfl (Or.inl rfl) ⟨by decide, by decide⟩ ?_
                refine zRes.ok (zQf.rf ho hR) (by rw [if_neg (by omega), if_neg (by omega)]) ?_
                unfold zclp
                rw [if_neg (by omega), if_neg (by omega), if_neg (by omega), if_neg (by omega), if_neg (by omega), if_neg (by omega), if_neg (by omega), if_neg (by omega), if_neg (by omega), if_neg (by omega), if_pos (by omega), ← e26]
                omega
            · refine g_tableIn (dflt := 198) (lo := 0) (hi := 14) (offs := #[73, 87, 101, 115, 198, 198, 198, 198, 198, 198, 128, 142, 156, 170, 184]) (len := 73) (off := 198) (tgt := 285) (by decide +kernel) ⟨by omega, by omega⟩ (by omega) (by omega) (by rw [h87]; rfl) (by decide) ?_
              refine g_aload_n (i := 0) (by decide +kernel) rfl ?_
              refine g_aload_n (i := 0) (by decide +kernel) rfl ?_
              refine g_getr f_Nc_22 (by decide +kernel) (by omega) rfl rfl ?_
              refine g_getr f_Nc_236 (by decide +kernel) (by omega) rfl rfl ?_
              refine g_iload_n (i := 1) (by decide +kernel) rfl ?_
              refine g_zald (j := c.toNat) (by decide +kernel) (by omega) rfl (by omega) (by omega) (by decide) ?_
              refine g_if_eq (off := 7) (tgt := 302) (by decide +kernel) (by decide) ⟨by omega, by omega⟩ (fun h295 => ?_) (fun h295 => ?_)
              · refine g_iconst (a := 0) (by decide +kernel) ?_
                refine g_cVI (st := _) (c_Nc_give hn) k_Nc_give l_Nc_208 (by decide +kernel) (by omega) rfl rfl rfl rfl (Nat.le_of_ble_eq_true rfl) (by decide) ⟨by decide, by decide⟩ ?_
                rintro a9 σ9 ⟨ea9, hσ9⟩
                obtain rfl := ea9.symm
                subst hσ9
                refine g_retI (by decide +kernel) rfl (Or.inl rfl) ⟨by decide, by decide⟩ ?_
                refine zRes.ok (zQf.rf ho hR) (by rw [if_neg (by omega), if_neg (by omega)]) ?_
                unfold zclp
                rw [if_neg (by omega), if_neg (by omega), if_neg (by omega), if_neg (by omega), if_neg (by omega), if_neg (by omega), if_neg (by omega), if_neg (by omega), if_neg (by omega), if_neg (by omega), if_pos (by omega), ← e26]
                omega
              · refine g_iconst (a := 1) (by decide +kernel) ?_
                refine g_goto (off := 4) (tgt := 303) (by decide +kernel) (by decide) ?_
                refine g_cVI (st := _) (c_Nc_give hn) k_Nc_give l_Nc_208 (by decide +kernel) (by omega) rfl rfl rfl rfl (Nat.le_of_ble_eq_true rfl) (by decide) ⟨by decide, by decide⟩ ?_
                rintro a9 σ9 ⟨ea9, hσ9⟩
                obtain rfl := ea9.symm
                subst hσ9
                refine g_retI (by decide +kernel) rfl (Or.inl rfl) ⟨by decide, by decide⟩ ?_
                refine zRes.ok (zQf.rf ho hR) (by rw [if_neg (by omega), if_neg (by omega)]) ?_
                unfold zclp
                rw [if_neg (by omega), if_neg (by omega), if_neg (by omega), if_neg (by omega), if_neg (by omega), if_neg (by omega), if_neg (by omega), if_neg (by omega), if_neg (by omega), if_neg (by omega), if_pos (by omega), ← e26]
                omega
            · refine g_tableIn (dflt := 198) (lo := 0) (hi := 14) (offs := #[73, 87, 101, 115, 198, 198, 198, 198, 198, 198, 128, 142, 156, 170, 184]) (len := 73) (off := 198) (tgt := 285) (by decide +kernel) ⟨by omega, by omega⟩ (by omega) (by omega) (by rw [h87]; rfl) (by decide) ?_
              refine g_aload_n (i := 0) (by decide +kernel) rfl ?_
              refine g_aload_n (i := 0) (by decide +kernel) rfl ?_
              refine g_getr f_Nc_22 (by decide +kernel) (by omega) rfl rfl ?_
              refine g_getr f_Nc_236 (by decide +kernel) (by omega) rfl rfl ?_
              refine g_iload_n (i := 1) (by decide +kernel) rfl ?_
              refine g_zald (j := c.toNat) (by decide +kernel) (by omega) rfl (by omega) (by omega) (by decide) ?_
              refine g_if_eq (off := 7) (tgt := 302) (by decide +kernel) (by decide) ⟨by omega, by omega⟩ (fun h295 => ?_) (fun h295 => ?_)
              · refine g_iconst (a := 0) (by decide +kernel) ?_
                refine g_cVI (st := _) (c_Nc_give hn) k_Nc_give l_Nc_208 (by decide +kernel) (by omega) rfl rfl rfl rfl (Nat.le_of_ble_eq_true rfl) (by decide) ⟨by decide, by decide⟩ ?_
                rintro a9 σ9 ⟨ea9, hσ9⟩
                obtain rfl := ea9.symm
                subst hσ9
                refine g_retI (by decide +kernel) rfl (Or.inl rfl) ⟨by decide, by decide⟩ ?_
                refine zRes.ok (zQf.rf ho hR) (by rw [if_neg (by omega), if_neg (by omega)]) ?_
                unfold zclp
                rw [if_neg (by omega), if_neg (by omega), if_neg (by omega), if_neg (by omega), if_neg (by omega), if_neg (by omega), if_neg (by omega), if_neg (by omega), if_neg (by omega), if_neg (by omega), if_pos (by omega), ← e26]
                omega
              · refine g_iconst (a := 1) (by decide +kernel) ?_
                refine g_goto (off := 4) (tgt := 303) (by decide +kernel) (by decide) ?_
                refine g_cVI (st := _) (c_Nc_give hn) k_Nc_give l_Nc_208 (by decide +kernel) (by omega) rfl rfl rfl rfl (Nat.le_of_ble_eq_true rfl) (by decide) ⟨by decide, by decide⟩ ?_
                rintro a9 σ9 ⟨ea9, hσ9⟩
                obtain rfl := ea9.symm
                subst hσ9
                refine g_retI (by decide +kernel) rfl (Or.inl rfl) ⟨by decide, by decide⟩ ?_
                refine zRes.ok (zQf.rf ho hR) (by rw [if_neg (by omega), if_neg (by omega)]) ?_
                unfold zclp
                rw [if_neg (by omega), if_neg (by omega), if_neg (by omega), if_neg (by omega), if_neg (by omega), if_neg (by omega), if_neg (by omega), if_neg (by omega), if_neg (by omega), if_neg (by omega), if_pos (by omega), ← e26]
                omega
            · refine g_tableIn (dflt := 198) (lo := 0) (hi := 14) (offs := #[73, 87, 101, 115, 198, 198, 198, 198, 198, 198, 128, 142, 156, 170, 184]) (len := 73) (off := 198) (tgt := 285) (by decide +kernel) ⟨by omega, by omega⟩ (by omega) (by omega) (by rw [h87]; rfl) (by decide) ?_
              refine g_aload_n (i := 0) (by decide +kernel) rfl ?_
              refine g_aload_n (i := 0) (by decide +kernel) rfl ?_
              refine g_getr f_Nc_22 (by decide +kernel) (by omega) rfl rfl ?_
              refine g_getr f_Nc_236 (by decide +kernel) (by omega) rfl rfl ?_
              refine g_iload_n (i := 1) (by decide +kernel) rfl ?_
              refine g_zald (j := c.toNat) (by decide +kernel) (by omega) rfl (by omega) (by omega) (by decide) ?_
              refine g_if_eq (off := 7) (tgt := 302) (by decide +kernel) (by decide) ⟨by omega, by omega⟩ (fun h295 => ?_) (fun h295 => ?_)
              · refine g_iconst (a := 0) (by decide +kernel) ?_
                refine g_cVI (st := _) (c_Nc_give hn) k_Nc_give l_Nc_208 (by decide +kernel) (by omega) rfl rfl rfl rfl (Nat.le_of_ble_eq_true rfl) (by decide) ⟨by decide, by decide⟩ ?_
                rintro a9 σ9 ⟨ea9, hσ9⟩
                obtain rfl := ea9.symm
                subst hσ9
                refine g_retI (by decide +kernel) rfl (Or.inl rfl) ⟨by decide, by decide⟩ ?_
                refine zRes.ok (zQf.rf ho hR) (by rw [if_neg (by omega), if_neg (by omega)]) ?_
                unfold zclp
                rw [if_neg (by omega), if_neg (by omega), if_neg (by omega), if_neg (by omega), if_neg (by omega), if_neg (by omega), if_neg (by omega), if_neg (by omega), if_neg (by omega), if_neg (by omega), if_pos (by omega), ← e26]
                omega
              · refine g_iconst (a := 1) (by decide +kernel) ?_
                refine g_goto (off := 4) (tgt := 303) (by decide +kernel) (by decide) ?_
                refine g_cVI (st := _) (c_Nc_give hn) k_Nc_give l_Nc_208 (by decide +kernel) (by omega) rfl rfl rfl rfl (Nat.le_of_ble_eq_true rfl) (by decide) ⟨by decide, by decide⟩ ?_
                rintro a9 σ9 ⟨ea9, hσ9⟩
                obtain rfl := ea9.symm
                subst hσ9
                refine g_retI (by decide +kernel) rfl (Or.inl rfl) ⟨by decide, by decide⟩ ?_
                refine zRes.ok (zQf.rf ho hR) (by rw [if_neg (by omega), if_neg (by omega)]) ?_
                unfold zclp
                rw [if_neg (by omega), if_neg (by omega), if_neg (by omega), if_neg (by omega), if_neg (by omega), if_neg (by omega), if_neg (by omega), if_neg (by omega), if_neg (by omega), if_neg (by omega), if_pos (by omega), ← e26]
                omega
            · refine g_tableIn (dflt := 198) (lo := 0) (hi := 14) (offs := #[73, 87, 101, 115, 198, 198, 198, 198, 198, 198, 128, 142, 156, 170, 184]) (len := 73) (off := 128) (tgt := 215) (by decide +kernel) ⟨by omega, by omega⟩ (by omega) (by omega) (by rw [h87]; rfl) (by decide) ?_
              refine g_aload_n (i := 0) (by decide +kernel) rfl ?_
              refine g_aload_n (i := 0) (by decide +kernel) rfl ?_
              refine g_getr f_Nc_10 (by decide +kernel) (by omega) rfl rfl ?_
              refine g_getr f_Nc_167 (by decide +kernel) (by omega) rfl rfl ?_
              refine g_iload_n (i := 1) (by decide +kernel) rfl ?_
              refine g_iald (j := c.toNat) (by decide +kernel) (by omega) rfl (by omega) (by omega) (by decide) ?_
              refine g_cVI (st := _) (c_Nc_give hn) k_Nc_give l_Nc_208 (by decide +kernel) (by omega) rfl rfl rfl rfl (Nat.le_of_ble_eq_true rfl) (by decide) ⟨by decide, by decide⟩ ?_
              rintro a9 σ9 ⟨ea9, hσ9⟩
              obtain rfl := ea9.symm
              subst hσ9
              refine g_retI (by decide +kernel) rfl (Or.inl rfl) ⟨by decide, by decide⟩ ?_
              exact zRes.ok (zQf.rf ho hR) (by rw [if_neg (by omega), if_neg (by omega)]) (by unfold zclp; rw [if_neg (by omega), if_neg (by omega), if_neg (by omega), if_neg (by omega), if_neg (by omega), if_pos (by omega)]; rfl)
            · refine g_tableIn (dflt := 198) (lo := 0) (hi := 14) (offs := #[73, 87, 101, 115, 198, 198, 198, 198, 198, 198, 128, 142, 156, 170, 184]) (len := 73) (off := 142) (tgt := 229) (by decide +kernel) ⟨by omega, by omega⟩ (by omega) (by omega) (by rw [h87]; rfl) (by decide) ?_
              refine g_aload_n (i := 0) (by decide +kernel) rfl ?_
              refine g_aload_n (i := 0) (by decide +kernel) rfl ?_
              refine g_getr f_Nc_10 (by decide +kernel) (by omega) rfl rfl ?_
              refine g_getr f_Nc_170 (by decide +kernel) (by omega) rfl rfl ?_
              refine g_iload_n (i := 1) (by decide +kernel) rfl ?_
              refine g_iald (j := c.toNat) (by decide +kernel) (by omega) rfl (by omega) (by omega) (by decide) ?_
              refine g_cVI (st := _) (c_Nc_give hn) k_Nc_give l_Nc_208 (by decide +kernel) (by omega) rfl rfl rfl rfl (Nat.le_of_ble_eq_true rfl) (by decide) ⟨by decide, by decide⟩ ?_
              rintro a9 σ9 ⟨ea9, hσ9⟩
              obtain rfl := ea9.symm
              subst hσ9
              refine g_retI (by decide +kernel) rfl (Or.inl rfl) ⟨by decide, by decide⟩ ?_
              exact zRes.ok (zQf.rf ho hR) (by rw [if_neg (by omega), if_neg (by omega)]) (by unfold zclp; rw [if_neg (by omega), if_neg (by omega), if_neg (by omega), if_neg (by omega), if_neg (by omega), if_neg (by omega), if_pos (by omega)]; rfl)
            · refine g_tableIn (dflt := 198) (lo := 0) (hi := 14) (offs := #[73, 87, 101, 115, 198, 198, 198, 198, 198, 198, 128, 142, 156, 170, 184]) (len := 73) (off := 156) (tgt := 243) (by decide +kernel) ⟨by omega, by omega⟩ (by omega) (by omega) (by rw [h87]; rfl) (by decide) ?_
              refine g_aload_n (i := 0) (by decide +kernel) rfl ?_
              refine g_aload_n (i := 0) (by decide +kernel) rfl ?_
              refine g_getr f_Nc_10 (by decide +kernel) (by omega) rfl rfl ?_
              refine g_getr f_Nc_173 (by decide +kernel) (by omega) rfl rfl ?_
              refine g_iload_n (i := 1) (by decide +kernel) rfl ?_
              refine g_iald (j := c.toNat) (by decide +kernel) (by omega) rfl (by omega) (by omega) (by decide) ?_
              refine g_cVI (st := _) (c_Nc_give hn) k_Nc_give l_Nc_208 (by decide +kernel) (by omega) rfl rfl rfl rfl (Nat.le_of_ble_eq_true rfl) (by decide) ⟨by decide, by decide⟩ ?_
              rintro a9 σ9 ⟨ea9, hσ9⟩
              obtain rfl := ea9.symm
              subst hσ9
              refine g_retI (by decide +kernel) rfl (Or.inl rfl) ⟨by decide, by decide⟩ ?_
              exact zRes.ok (zQf.rf ho hR) (by rw [if_neg (by omega), if_neg (by omega)]) (by unfold zclp; rw [if_neg (by omega), if_neg (by omega), if_neg (by omega), if_neg (by omega), if_neg (by omega), if_neg (by omega), if_neg (by omega), if_pos (by omega)]; rfl)
            · refine g_tableIn (dflt := 198) (lo := 0) (hi := 14) (offs := #[73, 87, 101, 115, 198, 198, 198, 198, 198, 198, 128, 142, 156, 170, 184]) (len := 73) (off := 170) (tgt := 257) (by decide +kernel) ⟨by omega, by omega⟩ (by omega) (by omega) (by rw [h87]; rfl) (by decide) ?_
              refine g_aload_n (i := 0) (by decide +kernel) rfl ?_
              refine g_aload_n (i := 0) (by decide +kernel) rfl ?_
              refine g_getr f_Nc_22 (by decide +kernel) (by omega) rfl rfl ?_
              refine g_getr f_Nc_230 (by decide +kernel) (by omega) rfl rfl ?_
              refine g_iload_n (i := 1) (by decide +kernel) rfl ?_
              refine g_iald (j := c.toNat) (by decide +kernel) (by omega) rfl (by omega) (by omega) (by decide) ?_
              refine g_cVI (st := _) (c_Nc_give hn) k_Nc_give l_Nc_208 (by decide +kernel) (by omega) rfl rfl rfl rfl (Nat.le_of_ble_eq_true rfl) (by decide) ⟨by decide, by decide⟩ ?_
              rintro a9 σ9 ⟨ea9, hσ9⟩
              obtain rfl := ea9.symm
              subst hσ9
              refine g_retI (by decide +kernel) rfl (Or.inl rfl) ⟨by decide, by decide⟩ ?_
              exact zRes.ok (zQf.rf ho hR) (by rw [if_neg (by omega), if_neg (by omega)]) (by unfold zclp; rw [if_neg (by omega), if_neg (by omega), if_neg (by omega), if_neg (by omega), if_neg (by omega), if_neg (by omega), if_neg (by omega), if_neg (by omega), if_pos (by omega)]; exact (ho.si (by omega)).symm)
            · refine g_tableIn (dflt := 198) (lo := 0) (hi := 14) (offs := #[73, 87, 101, 115, 198, 198, 198, 198, 198, 198, 128, 142, 156, 170, 184]) (len := 73) (off := 184) (tgt := 271) (by decide +kernel) ⟨by omega, by omega⟩ (by omega) (by omega) (by rw [h87]; rfl) (by decide) ?_
              refine g_aload_n (i := 0) (by decide +kernel) rfl ?_
              refine g_aload_n (i := 0) (by decide +kernel) rfl ?_
              refine g_getr f_Nc_22 (by decide +kernel) (by omega) rfl rfl ?_
              refine g_getr f_Nc_233 (by decide +kernel) (by omega) rfl rfl ?_
              refine g_iload_n (i := 1) (by decide +kernel) rfl ?_
              refine g_iald (j := c.toNat) (by decide +kernel) (by omega) rfl (by omega) (by omega) (by decide) ?_
              refine g_cVI (st := _) (c_Nc_give hn) k_Nc_give l_Nc_208 (by decide +kernel) (by omega) rfl rfl rfl rfl (Nat.le_of_ble_eq_true rfl) (by decide) ⟨by decide, by decide⟩ ?_
              rintro a9 σ9 ⟨ea9, hσ9⟩
              obtain rfl := ea9.symm
              subst hσ9
              refine g_retI (by decide +kernel) rfl (Or.inl rfl) ⟨by decide, by decide⟩ ?_
              exact zRes.ok (zQf.rf ho hR) (by rw [if_neg (by omega), if_neg (by omega)]) (by unfold zclp; rw [if_neg (by omega), if_neg (by omega), if_neg (by omega), if_neg (by omega), if_neg (by omega), if_neg (by omega), if_neg (by omega), if_neg (by omega), if_neg (by omega), if_pos (by omega)]; exact (ho.ac (by omega)).symm)
            · refine g_tableOut (dflt := 198) (lo := 0) (hi := 14) (offs := #[73, 87, 101, 115, 198, 198, 198, 198, 198, 198, 128, 142, 156, 170, 184]) (len := 73) (tgt := 285) (by decide +kernel) ⟨by omega, by omega⟩ h87 (by decide) ?_
              refine g_aload_n (i := 0) (by decide +kernel) rfl ?_
              refine g_aload_n (i := 0) (by decide +kernel) rfl ?_
              refine g_getr f_Nc_22 (by decide +kernel) (by omega) rfl rfl ?_
              refine g_getr f_Nc_236 (by decide +kernel) (by omega) rfl rfl ?_
              refine g_iload_n (i := 1) (by decide +kernel) rfl ?_
              refine g_zald (j := c.toNat) (by decide +kernel) (by omega) rfl (by omega) (by omega) (by decide) ?_
              refine g_if_eq (off := 7) (tgt := 302) (by decide +kernel) (by decide) ⟨by omega, by omega⟩ (fun h295 => ?_) (fun h295 => ?_)
              · refine g_iconst (a := 0) (by decide +kernel) ?_
                refine g_cVI (st := _) (c_Nc_give hn) k_Nc_give l_Nc_208 (by decide +kernel) (by omega) rfl rfl rfl rfl (Nat.le_of_ble_eq_true rfl) (by decide) ⟨by decide, by decide⟩ ?_
                rintro a9 σ9 ⟨ea9, hσ9⟩
                obtain rfl := ea9.symm
                subst hσ9
                refine g_retI (by decide +kernel) rfl (Or.inl rfl) ⟨by decide, by decide⟩ ?_
                refine zRes.ok (zQf.rf ho hR) (by rw [if_neg (by omega), if_neg (by omega)]) ?_
                unfold zclp
                rw [if_neg (by omega), if_neg (by omega), if_neg (by omega), if_neg (by omega), if_neg (by omega), if_neg (by omega), if_neg (by omega), if_neg (by omega), if_neg (by omega), if_neg (by omega), if_pos (by omega), ← e26]
                omega
              · refine g_iconst (a := 1) (by decide +kernel) ?_
                refine g_goto (off := 4) (tgt := 303) (by decide +kernel) (by decide) ?_
                refine g_cVI (st := _) (c_Nc_give hn) k_Nc_give l_Nc_208 (by decide +kernel) (by omega) rfl rfl rfl rfl (Nat.le_of_ble_eq_true rfl) (by decide) ⟨by decide, by decide⟩ ?_
                rintro a9 σ9 ⟨ea9, hσ9⟩
                obtain rfl := ea9.symm
                subst hσ9
                refine g_retI (by decide +kernel) rfl (Or.inl rfl) ⟨by decide, by decide⟩ ?_
                refine zRes.ok (zQf.rf ho hR) (by rw [if_neg (by omega), if_neg (by omega)]) ?_
                unfold zclp
                rw [if_neg (by omega), if_neg (by omega), if_neg (by omega), if_neg (by omega), if_neg (by omega), if_neg (by omega), if_neg (by omega), if_neg (by omega), if_neg (by omega), if_neg (by omega), if_pos (by omega), ← e26]
                omega
          · refine g_aload_n (i := 0) (by decide +kernel) rfl ?_
            refine g_aload_n (i := 0) (by decide +kernel) rfl ?_
            refine g_getr f_Nc_10 (by decide +kernel) (by omega) rfl rfl ?_
            refine g_iload_n (i := 1) (by decide +kernel) rfl ?_
            refine g_iload_n (i := 2) (by decide +kernel) rfl ?_
            refine g_bipush (a := 16) (by decide +kernel) (by decide) ?_
            refine g_isub (by decide +kernel) ?_
            refine g_bipush (a := 6) (by decide +kernel) (by decide) ?_
            refine g_iadd (by decide +kernel) ?_
            obtain ⟨k, ek⟩ := Int.eq_ofNat_of_zero_le h24.1
            have kt : c.toNat = k := by omega
            obtain ⟨v, ev⟩ := Int.eq_ofNat_of_zero_le (show 0 ≤ w - 16 + 6 by omega)
            rw [ek, ev]
            refine g_cVI (st := _) (c_Sh_markOf (b := 1) (k := k) (w := v) hn sh_1 (by omega) (by omega)) k_Sh_markOf l_Nc_160 (by decide +kernel) (by omega) rfl rfl rfl rfl (Nat.le_of_ble_eq_true rfl) (by decide) ⟨by decide, by decide⟩ ?_
            rintro a σ9 ⟨ea, hσ⟩
            obtain rfl := hσ.symm
            rw [← ek]
            have ea : a = σ 8 (9 * k + v) := ea
            refine g_cVI (st := _) (c_Nc_give hn) k_Nc_give l_Nc_208 (by decide +kernel) (by omega) rfl rfl rfl rfl (Nat.le_of_ble_eq_true rfl) (by decide) ⟨by decide, by decide⟩ ?_
            rintro a9 σ9 ⟨ea9, hσ9⟩
            obtain rfl := ea9.symm
            subst hσ9
            refine g_retI (by decide +kernel) rfl (Or.inl rfl) ⟨by decide, by decide⟩ ?_
            refine zRes.ok (zQf.rf ho hR) (by rw [if_neg (by omega), if_neg (by omega)]) ?_
            unfold zclp
            rw [if_neg (by omega), if_neg (by omega), if_neg (by omega), if_neg (by omega), if_neg (by omega), if_neg (by omega), if_neg (by omega), if_neg (by omega), if_neg (by omega), if_neg (by omega), if_neg (by omega), kt, show (w - 10).toNat = v by omega]
            exact ea.symm
        · refine g_iload_n (i := 2) (by decide +kernel) rfl ?_
          refine g_bipush (a := 9) (by decide +kernel) (by decide) ?_
          refine g_icmp_gt (off := 19) (tgt := 60) (by decide +kernel) (by decide) ⟨by omega, by omega⟩ ⟨by omega, by omega⟩ (fun h41 => ?_) (fun h41 => ?_)
          · refine g_iload_n (i := 2) (by decide +kernel) rfl ?_
            refine g_bipush (a := 16) (by decide +kernel) (by decide) ?_
            refine g_icmp_lt (off := 23) (tgt := 86) (by decide +kernel) (by decide) ⟨by omega, by omega⟩ ⟨by omega, by omega⟩ (fun h63 => ?_) (fun h63 => ?_)
            · refine g_iload_n (i := 2) (by decide +kernel) rfl ?_
              rcases (by omega : w = 0 ∨ w = 1 ∨ w = 2 ∨ w = 3 ∨ w = 4 ∨ w = 5 ∨ w = 6 ∨ w = 7 ∨ w = 8 ∨ w = 9 ∨ w = 10 ∨ w = 11 ∨ w = 12 ∨ w = 13 ∨ w = 14 ∨ (w < 0 ∨ 14 < w)) with h87 | h87 | h87 | h87 | h87 | h87 | h87 | h87 | h87 | h87 | h87 | h87 | h87 | h87 | h87 | h87
              · refine g_tableIn (dflt := 198) (lo := 0) (hi := 14) (offs := #[73, 87, 101, 115, 198, 198, 198, 198, 198, 198, 128, 142, 156, 170, 184]) (len := 73) (off := 73) (tgt := 160) (by decide +kernel) ⟨by omega, by omega⟩ (by omega) (by omega) (by rw [h87]; rfl) (by decide) ?_
                refine g_aload_n (i := 0) (by decide +kernel) rfl ?_
                refine g_aload_n (i := 0) (by decide +kernel) rfl ?_
                refine g_getr f_Nc_10 (by decide +kernel) (by omega) rfl rfl ?_
                refine g_getr f_Nc_124 (by decide +kernel) (by omega) rfl rfl ?_
                refine g_iload_n (i := 1) (by decide +kernel) rfl ?_
                refine g_iald (j := c.toNat) (by decide +kernel) (by omega) rfl (by omega) (by omega) (by decide) ?_
                refine g_cVI (st := _) (c_Nc_give hn) k_Nc_give l_Nc_208 (by decide +kernel) (by omega) rfl rfl rfl rfl (Nat.le_of_ble_eq_true rfl) (by decide) ⟨by decide, by decide⟩ ?_
                rintro a9 σ9 ⟨ea9, hσ9⟩
                obtain rfl := ea9.symm
                subst hσ9
                refine g_retI (by decide +kernel) rfl (Or.inl rfl) ⟨by decide, by decide⟩ ?_
                exact zRes.ok (zQf.rf ho hR) (by rw [if_neg (by omega), if_neg (by omega)]) (by unfold zclp; rw [if_pos (by omega)]; rfl)
              · refine g_tableIn (dflt := 198) (lo := 0) (hi := 14) (offs := #[73, 87, 101, 115, 198, 198, 198, 198, 198, 198, 128, 142, 156, 170, 184]) (len := 73) (off := 87) (tgt := 174) (by decide +kernel) ⟨by omega, by omega⟩ (by omega) (by omega) (by rw [h87]; rfl) (by decide) ?_
                refine g_aload_n (i := 0) (by decide +kernel) rfl ?_
                refine g_aload_n (i := 0) (by decide +kernel) rfl ?_
                refine g_getr f_Nc_10 (by decide +kernel) (by omega) rfl rfl ?_
                refine g_getr f_Nc_142 (by decide +kernel) (by omega) rfl rfl ?_
                refine g_iload_n (i := 1) (by decide +kernel) rfl ?_
                refine g_iald (j := c.toNat) (by decide +kernel) (by omega) rfl (by omega) (by omega) (by decide) ?_
                refine g_cVI (st := _) (c_Nc_give hn) k_Nc_give l_Nc_208 (by decide +kernel) (by omega) rfl rfl rfl rfl (Nat.le_of_ble_eq_true rfl) (by decide) ⟨by decide, by decide⟩ ?_
                rintro a9 σ9 ⟨ea9, hσ9⟩
                obtain rfl := ea9.symm
                subst hσ9
                refine g_retI (by decide +kernel) rfl (Or.inl rfl) ⟨by decide, by decide⟩ ?_
                exact zRes.ok (zQf.rf ho hR) (by rw [if_neg (by omega), if_neg (by omega)]) (by unfold zclp; rw [if_neg (by omega), if_pos (by omega)]; rfl)
              · refine g_tableIn (dflt := 198) (lo := 0) (hi := 14) (offs := #[73, 87, 101, 115, 198, 198, 198, 198, 198, 198, 128, 142, 156, 170, 184]) (len := 73) (off := 101) (tgt := 188) (by decide +kernel) ⟨by omega, by omega⟩ (by omega) (by omega) (by rw [h87]; rfl) (by decide) ?_
                refine g_aload_n (i := 0) (by decide +kernel) rfl ?_
                refine g_aload_n (i := 0) (by decide +kernel) rfl ?_
                refine g_getr f_Nc_10 (by decide +kernel) (by omega) rfl rfl ?_
                refine g_getr f_Nc_148 (by decide +kernel) (by omega) rfl rfl ?_
                refine g_iload_n (i := 1) (by decide +kernel) rfl ?_
                refine g_iald (j := c.toNat) (by decide +kernel) (by omega) rfl (by omega) (by omega) (by decide) ?_
                refine g_cVI (st := _) (c_Nc_give hn) k_Nc_give l_Nc_208 (by decide +kernel) (by omega) rfl rfl rfl rfl (Nat.le_of_ble_eq_true rfl) (by decide) ⟨by decide, by decide⟩ ?_
                rintro a9 σ9 ⟨ea9, hσ9⟩
                obtain rfl := ea9.symm
                subst hσ9
                refine g_retI (by decide +kernel) rfl (Or.inl rfl) ⟨by decide, by decide⟩ ?_
                exact zRes.ok (zQf.rf ho hR) (by rw [if_neg (by omega), if_neg (by omega)]) (by unfold zclp; rw [if_neg (by omega), if_neg (by omega), if_pos (by omega)]; rfl)
              · refine g_tableIn (dflt := 198) (lo := 0) (hi := 14) (offs := #[73, 87, 101, 115, 198, 198, 198, 198, 198, 198, 128, 142, 156, 170, 184]) (len := 73) (off := 115) (tgt := 202) (by decide +kernel) ⟨by omega, by omega⟩ (by omega) (by omega) (by rw [h87]; rfl) (by decide) ?_
                refine g_aload_n (i := 0) (by decide +kernel) rfl ?_
                refine g_aload_n (i := 0) (by decide +kernel) rfl ?_
                refine g_getr f_Nc_10 (by decide +kernel) (by omega) rfl rfl ?_
                refine g_iload_n (i := 1) (by decide +kernel) rfl ?_
                refine g_cVI (st := _) (c_Sh_howManyIn (b := 1) hn sh_1 ho.1 z1) k_Sh_howManyIn l_Nc_145 (by decide +kernel) (by omega) rfl rfl rfl rfl (Nat.le_of_ble_eq_true rfl) (by decide) ⟨by decide, by decide⟩ ?_
                rintro a σ9 ⟨ea, hσ⟩
                obtain rfl := hσ.symm
                have ea : a = (zcnt (fun j => decide (σ 3 j = c)) (σ 1 0).toNat : Int) := ea
                refine g_cVI (st := _) (c_Nc_give hn) k_Nc_give l_Nc_208 (by decide +kernel) (by omega) rfl rfl rfl rfl (Nat.le_of_ble_eq_true rfl) (by decide) ⟨by decide, by decide⟩ ?_
                rintro a9 σ9 ⟨ea9, hσ9⟩
                obtain rfl := ea9.symm
                subst hσ9
                refine g_retI (by decide +kernel) rfl (Or.inl rfl) ⟨by decide, by decide⟩ ?_
                exact zRes.ok (zQf.rf ho hR) (by rw [if_neg (by omega), if_neg (by omega)]) (by unfold zclp; rw [if_neg (by omega), if_neg (by omega), if_neg (by omega), if_pos (by omega)]; rw [show ((c.toNat : Nat) : Int) = c by omega]; exact ea.symm)
              · refine g_tableIn (dflt := 198) (lo := 0) (hi := 14) (offs := #[73, 87, 101, 115, 198, 198, 198, 198, 198, 198, 128, 142, 156, 170, 184]) (len := 73) (off := 198) (tgt := 285) (by decide +kernel) ⟨by omega, by omega⟩ (by omega) (by omega) (by rw [h87]; rfl) (by decide) ?_
                refine g_aload_n (i := 0) (by decide +kernel) rfl ?_
                refine g_aload_n (i := 0) (by decide +kernel) rfl ?_
                refine g_getr f_Nc_22 (by decide +kernel) (by omega) rfl rfl ?_
                refine g_getr f_Nc_236 (by decide +kernel) (by omega) rfl rfl ?_
                refine g_iload_n (i := 1) (by decide +kernel) rfl ?_
                refine g_zald (j := c.toNat) (by decide +kernel) (by omega) rfl (by omega) (by omega) (by decide) ?_
                refine g_if_eq (off := 7) (tgt := 302) (by decide +kernel) (by decide) ⟨by omega, by omega⟩ (fun h295 => ?_) (fun h295 => ?_)
                · refine g_iconst (a := 0) (by decide +kernel) ?_
                  refine g_cVI (st := _) (c_Nc_give hn) k_Nc_give l_Nc_208 (by decide +kernel) (by omega) rfl rfl rfl rfl (Nat.le_of_ble_eq_true rfl) (by decide) ⟨by decide, by decide⟩ ?_
                  rintro a9 σ9 ⟨ea9, hσ9⟩
                  obtain rfl := ea9.symm
                  subst hσ9
                  refine g_retI (by decide +kernel) rfl (Or.inl rfl) ⟨by decide, by decide⟩ ?_
                  refine zRes.ok (zQf.rf ho hR) (by rw [if_neg (by omega), if_neg (by omega)]) ?_
                  unfold zclp
                  rw [if_neg (by omega), if_neg (by omega), if_neg (by omega), if_neg (by omega), if_neg (by omega), if_neg (by omega), if_neg (by omega), if_neg (by omega), if_neg (by omega), if_neg (by omega), if_pos (by omega), ← e26]
                  omega
                · refine g_iconst (a := 1) (by decide +kernel) ?_
                  refine g_goto (off := 4) (tgt := 303) (by decide +kernel) (by decide) ?_
                  refine g_cVI (st := _) (c_Nc_give hn) k_Nc_give l_Nc_208 (by decide +kernel) (by omega) rfl rfl rfl rfl (Nat.le_of_ble_eq_true rfl) (by decide) ⟨by decide, by decide⟩ ?_
                  rintro a9 σ9 ⟨ea9, hσ9⟩
                  obtain rfl := ea9.symm
                  subst hσ9
                  refine g_retI (by decide +kernel) rfl (Or.inl rfl) ⟨by decide, by decide⟩ ?_
                  refine zRes.ok (zQf.rf ho hR) (by rw [if_neg (by omega), if_neg (by omega)]) ?_
                  unfold zclp
                  rw [if_neg (by omega), if_neg (by omega), if_neg (by omega), if_neg (by omega), if_neg (by omega), if_neg (by omega), if_neg (by omega), if_neg (by omega), if_neg (by omega), if_neg (by omega), if_pos (by omega), ← e26]
                  omega
              · refine g_tableIn (dflt := 198) (lo := 0) (hi := 14) (offs := #[73, 87, 101, 115, 198, 198, 198, 198, 198, 198, 128, 142, 156, 170, 184]) (len := 73) (off := 198) (tgt := 285) (by decide +kernel) ⟨by omega, by omega⟩ (by omega) (by omega) (by rw [h87]; rfl) (by decide) ?_
                refine g_aload_n (i := 0) (by decide +kernel) rfl ?_
                refine g_aload_n (i := 0) (by decide +kernel) rfl ?_
                refine g_getr f_Nc_22 (by decide +kernel) (by omega) rfl rfl ?_
                refine g_getr f_Nc_236 (by decide +kernel) (by omega) rfl rfl ?_
                refine g_iload_n (i := 1) (by decide +kernel) rfl ?_
                refine g_zald (j := c.toNat) (by decide +kernel) (by omega) rfl (by omega) (by omega) (by decide) ?_
                refine g_if_eq (off := 7) (tgt := 302) (by decide +kernel) (by decide) ⟨by omega, by omega⟩ (fun h295 => ?_) (fun h295 => ?_)
                · refine g_iconst (a := 0) (by decide +kernel) ?_
                  refine g_cVI (st := _) (c_Nc_give hn) k_Nc_give l_Nc_208 (by decide +kernel) (by omega) rfl rfl rfl rfl (Nat.le_of_ble_eq_true rfl) (by decide) ⟨by decide, by decide⟩ ?_
                  rintro a9 σ9 ⟨ea9, hσ9⟩
                  obtain rfl := ea9.symm
                  subst hσ9
                  refine g_retI (by decide +kernel) rfl (Or.inl rfl) ⟨by decide, by decide⟩ ?_
                  refine zRes.ok (zQf.rf ho hR) (by rw [if_neg (by omega), if_neg (by omega)]) ?_
                  unfold zclp
                  rw [if_neg (by omega), if_neg (by omega), if_neg (by omega), if_neg (by omega), if_neg (by omega), if_neg (by omega), if_neg (by omega), if_neg (by omega), if_neg (by omega), if_neg (by omega), if_pos (by omega), ← e26]
                  omega
                · refine g_iconst (a := 1) (by decide +kernel) ?_
                  refine g_goto (off := 4) (tgt := 303) (by decide +kernel) (by decide) ?_
                  refine g_cVI (st := _) (c_Nc_give hn) k_Nc_give l_Nc_208 (by decide +kernel) (by omega) rfl rfl rfl rfl (Nat.le_of_ble_eq_true rfl) (by decide) ⟨by decide, by decide⟩ ?_
                  rintro a9 σ9 ⟨ea9, hσ9⟩
                  obtain rfl := ea9.symm
                  subst hσ9
                  refine g_retI (by decide +kernel) rfl (Or.inl rfl) ⟨by decide, by decide⟩ ?_
                  refine zRes.ok (zQf.rf ho hR) (by rw [if_neg (by omega), if_neg (by omega)]) ?_
                  unfold zclp
                  rw [if_neg (by omega), if_neg (by omega), if_neg (by omega), if_neg (by omega), if_neg (by omega), if_neg (by omega), if_neg (by omega), if_neg (by omega), if_neg (by omega), if_neg (by omega), if_pos (by omega), ← e26]
                  omega
              · refine g_tableIn (dflt := 198) (lo := 0) (hi := 14) (offs := #[73, 87, 101, 115, 198, 198, 198, 198, 198, 198, 128, 142, 156, 170, 184]) (len := 73) (off := 198) (tgt := 285) (by decide +kernel) ⟨by omega, by omega⟩ (by omega) (by omega) (by rw [h87]; rfl) (by decide) ?_
                refine g_aload_n (i := 0) (by decide +kernel) rfl ?_
                refine g_aload_n (i := 0) (by decide +kernel) rfl ?_
                refine g_getr f_Nc_22 (by decide +kernel) (by omega) rfl rfl ?_
                refine g_getr f_Nc_236 (by decide +kernel) (by omega) rfl rfl ?_
                refine g_iload_n (i := 1) (by decide +kernel) rfl ?_
                refine g_zald (j := c.toNat) (by decide +kernel) (by omega) rfl (by omega) (by omega) (by decide) ?_
                refine g_if_eq (off := 7) (tgt := 302) (by decide +kernel) (by decide) ⟨by omega, by omega⟩ (fun h295 => ?_) (fun h295 => ?_)
                · refine g_iconst (a := 0) (by decide +kernel) ?_
                  refine g_cVI (st := _) (c_Nc_give hn) k_Nc_give l_Nc_208 (by decide +kernel) (by omega) rfl rfl rfl rfl (Nat.le_of_ble_eq_true rfl) (by decide) ⟨by decide, by decide⟩ ?_
                  rintro a9 σ9 ⟨ea9, hσ9⟩
                  obtain rfl := ea9.symm
                  subst hσ9
                  refine g_retI (by decide +kernel) rfl (Or.inl rfl) ⟨by decide, by decide⟩ ?_
                  refine zRes.ok (zQf.rf ho hR) (by rw [if_neg (by omega), if_neg (by omega)]) ?_
                  unfold zclp
                  rw [if_neg (by omega), if_neg (by omega), if_neg (by omega), if_neg (by omega), if_neg (by omega), if_neg (by omega), if_neg (by omega), if_neg (by omega), if_neg (by omega), if_neg (by omega), if_pos (by omega), ← e26]
                  omega
                · refine g_iconst (a := 1) (by decide +kernel) ?_
                  refine g_goto (off := 4) (tgt := 303) (by decide +kernel) (by decide) ?_
                  refine g_cVI (st := _) (c_Nc_give hn) k_Nc_give l_Nc_208 (by decide +kernel) (by omega) rfl rfl rfl rfl (Nat.le_of_ble_eq_true rfl) (by decide) ⟨by decide, by decide⟩ ?_
                  rintro a9 σ9 ⟨ea9, hσ9⟩
                  obtain rfl := ea9.symm
                  subst hσ9
                  refine g_retI (by decide +kernel) rfl (Or.inl rfl) ⟨by decide, by decide⟩ ?_
                  refine zRes.ok (zQf.rf ho hR) (by rw [if_neg (by omega), if_neg (by omega)]) ?_
                  unfold zclp
                  rw [if_neg (by omega), if_neg (by omega), if_neg (by omega), if_neg (by omega), if_neg (by omega), if_neg (by omega), if_neg (by omega), if_neg (by omega), if_neg (by omega), if_neg (by omega), if_pos (by omega), ← e26]
                  omega
              · refine g_tableIn (dflt := 198) (lo := 0) (hi := 14) (offs := #[73, 87, 101, 115, 198, 198, 198, 198, 198, 198, 128, 142, 156, 170, 184]) (len := 73) (off := 198) (tgt := 285) (by decide +kernel) ⟨by omega, by omega⟩ (by omega) (by omega) (by rw [h87]; rfl) (by decide) ?_
                refine g_aload_n (i := 0) (by decide +kernel) rfl ?_
                refine g_aload_n (i := 0) (by decide +kernel) rfl ?_
                refine g_getr f_Nc_22 (by decide +kernel) (by omega) rfl rfl ?_
                refine g_getr f_Nc_236 (by decide +kernel) (by omega) rfl rfl ?_
                refine g_iload_n (i := 1) (by decide +kernel) rfl ?_
                refine g_zald (j := c.toNat) (by decide +kernel) (by omega) rfl (by omega) (by omega) (by decide) ?_
                refine g_if_eq (off := 7) (tgt := 302) (by decide +kernel) (by decide) ⟨by omega, by omega⟩ (fun h295 => ?_) (fun h295 => ?_)
                · refine g_iconst (a := 0) (by decide +kernel) ?_
                  refine g_cVI (st := _) (c_Nc_give hn) k_Nc_give l_Nc_208 (by decide +kernel) (by omega) rfl rfl rfl rfl (Nat.le_of_ble_eq_true rfl) (by decide) ⟨by decide, by decide⟩ ?_
                  rintro a9 σ9 ⟨ea9, hσ9⟩
                  obtain rfl := ea9.symm
                  subst hσ9
                  refine g_retI (by decide +kernel) rfl (Or.inl rfl) ⟨by decide, by decide⟩ ?_
                  refine zRes.ok (zQf.rf ho hR) (by rw [if_neg (by omega), if_neg (by omega)]) ?_
                  unfold zclp
                  rw [if_neg (by omega), if_neg (by omega), if_neg (by omega), if_neg (by omega), if_neg (by omega), if_neg (by omega), if_neg (by omega), if_neg (by omega), if_neg (by omega), if_neg (by omega), if_pos (by omega), ← e26]
                  omega
                · refine g_iconst (a := 1) (by decide +kernel) ?_
                  refine g_goto (off := 4) (tgt := 303) (by decide +kernel) (by decide) ?_
                  refine g_cVI (st := _) (c_Nc_give hn) k_Nc_give l_Nc_208 (by decide +kernel) (by omega) rfl rfl rfl rfl (Nat.le_of_ble_eq_true rfl) (by decide) ⟨by decide, by decide⟩ ?_
                  rintro a9 σ9 ⟨ea9, hσ9⟩
                  obtain rfl := ea9.symm
                  subst hσ9
                  refine g_retI (by decide +kernel) rfl (Or.inl rfl) ⟨by decide, by decide⟩ ?_
                  refine zRes.ok (zQf.rf ho hR) (by rw [if_neg (by omega), if_neg (by omega)]) ?_
                  unfold zclp
                  rw [if_neg (by omega), if_neg (by omega), if_neg (by omega), if_neg (by omega), if_neg (by omega), if_neg (by omega), if_neg (by omega), if_neg (by omega), if_neg (by omega), if_neg (by omega), if_pos (by omega), ← e26]
                  omega
              · refine g_tableIn (dflt := 198) (lo := 0) (hi := 14) (offs := #[73, 87, 101, 115, 198, 198, 198, 198, 198, 198, 128, 142, 156, 170, 184]) (len := 73) (off := 198) (tgt := 285) (by decide +kernel) ⟨by omega, by omega⟩ (by omega) (by omega) (by rw [h87]; rfl) (by decide) ?_
                refine g_aload_n (i := 0) (by decide +kernel) rfl ?_
                refine g_aload_n (i := 0) (by decide +kernel) rfl ?_
                refine g_getr f_Nc_22 (by decide +kernel) (by omega) rfl rfl ?_
                refine g_getr f_Nc_236 (by decide +kernel) (by omega) rfl rfl ?_
                refine g_iload_n (i := 1) (by decide +kernel) rfl ?_
                refine g_zald (j := c.toNat) (by decide +kernel) (by omega) rfl (by omega) (by omega) (by decide) ?_
                refine g_if_eq (off := 7) (tgt := 302) (by decide +kernel) (by decide) ⟨by omega, by omega⟩ (fun h295 => ?_) (fun h295 => ?_)
                · refine g_iconst (a := 0) (by decide +kernel) ?_
                  refine g_cVI (st := _) (c_Nc_give hn) k_Nc_give l_Nc_208 (by decide +kernel) (by omega) rfl rfl rfl rfl (Nat.le_of_ble_eq_true rfl) (by decide) ⟨by decide, by decide⟩ ?_
                  rintro a9 σ9 ⟨ea9, hσ9⟩
                  obtain rfl := ea9.symm
                  subst hσ9
                  refine g_retI (by decide +kernel) rfl (Or.inl rfl) ⟨by decide, by decide⟩ ?_
                  refine zRes.ok (zQf.rf ho hR) (by rw [if_neg (by omega), if_neg (by omega)]) ?_
                  unfold zclp
                  rw [if_neg (by omega), if_neg (by omega), if_neg (by omega), if_neg (by omega), if_neg (by omega), if_neg (by omega), if_neg (by omega), if_neg (by omega), if_neg (by omega), if_neg (by omega), if_pos (by omega), ← e26]
                  omega
                · refine g_iconst (a := 1) (by decide +kernel) ?_
                  refine g_goto (off := 4) (tgt := 303) (by decide +kernel) (by decide) ?_
                  refine g_cVI (st := _) (c_Nc_give hn) k_Nc_give l_Nc_208 (by decide +kernel) (by omega) rfl rfl rfl rfl (Nat.le_of_ble_eq_true rfl) (by decide) ⟨by decide, by decide⟩ ?_
                  rintro a9 σ9 ⟨ea9, hσ9⟩
                  obtain rfl := ea9.symm
                  subst hσ9
                  refine g_retI (by decide +kernel) rfl (Or.inl rfl) ⟨by decide, by decide⟩ ?_
                  refine zRes.ok (zQf.rf ho hR) (by rw [if_neg (by omega), if_neg (by omega)]) ?_
                  unfold zclp
                  rw [if_neg (by omega), if_neg (by omega), if_neg (by omega), if_neg (by omega), if_neg (by omega), if_neg (by omega), if_neg (by omega), if_neg (by omega), if_neg (by omega), if_neg (by omega), if_pos (by omega), ← e26]
                  omega
              · refine g_tableIn (dflt := 198) (lo := 0) (hi := 14) (offs := #[73, 87, 101, 115, 198, 198, 198, 198, 198, 198, 128, 142, 156, 170, 184]) (len := 73) (off := 198) (tgt := 285) (by decide +kernel) ⟨by omega, by omega⟩ (by omega) (by omega) (by rw [h87]; rfl) (by decide) ?_
                refine g_aload_n (i := 0) (by decide +kernel) rfl ?_
                refine g_aload_n (i := 0) (by decide +kernel) rfl ?_
                refine g_getr f_Nc_22 (by decide +kernel) (by omega) rfl rfl ?_
                refine g_getr f_Nc_236 (by decide +kernel) (by omega) rfl rfl ?_
                refine g_iload_n (i := 1) (by decide +kernel) rfl ?_
                refine g_zald (j := c.toNat) (by decide +kernel) (by omega) rfl (by omega) (by omega) (by decide) ?_
                refine g_if_eq (off := 7) (tgt := 302) (by decide +kernel) (by decide) ⟨by omega, by omega⟩ (fun h295 => ?_) (fun h295 => ?_)
                · refine g_iconst (a := 0) (by decide +kernel) ?_
                  refine g_cVI (st := _) (c_Nc_give hn) k_Nc_give l_Nc_208 (by decide +kernel) (by omega) rfl rfl rfl rfl (Nat.le_of_ble_eq_true rfl) (by decide) ⟨by decide, by decide⟩ ?_
                  rintro a9 σ9 ⟨ea9, hσ9⟩
                  obtain rfl := ea9.symm
                  subst hσ9
                  refine g_retI (by decide +kernel) rfl (Or.inl rfl) ⟨by decide, by decide⟩ ?_
                  refine zRes.ok (zQf.rf ho hR) (by rw [if_neg (by omega), if_neg (by omega)]) ?_
                  unfold zclp
                  rw [if_neg (by omega), if_neg (by omega), if_neg (by omega), if_neg (by omega), if_neg (by omega), if_neg (by omega), if_neg (by omega), if_neg (by omega), if_neg (by omega), if_neg (by omega), if_pos (by omega), ← e26]
                  omega
                · refine g_iconst (a := 1) (by decide +kernel) ?_
                  refine g_goto (off := 4) (tgt := 303) (by decide +kernel) (by decide) ?_
                  refine g_cVI (st := _) (c_Nc_give hn) k_Nc_give l_Nc_208 (by decide +kernel) (by omega) rfl rfl rfl rfl (Nat.le_of_ble_eq_true rfl) (by decide) ⟨by decide, by decide⟩ ?_
                  rintro a9 σ9 ⟨ea9, hσ9⟩
                  obtain rfl := ea9.symm
                  subst hσ9
                  refine g_retI (by decide +kernel) rfl (Or.inl rfl) ⟨by decide, by decide⟩ ?_
                  refine zRes.ok (zQf.rf ho hR) (by rw [if_neg (by omega), if_neg (by omega)]) ?_
                  unfold zclp
                  rw [if_neg (by omega), if_neg (by omega), if_neg (by omega), if_neg (by omega), if_neg (by omega), if_neg (by omega), if_neg (by omega), if_neg (by omega), if_neg (by omega), if_neg (by omega), if_pos (by omega), ← e26]
                  omega
              · refine g_tableIn (dflt := 198) (lo := 0) (hi := 14) (offs := #[73, 87, 101, 115, 198, 198, 198, 198, 198, 198, 128, 142, 156, 170, 184]) (len := 73) (off := 128) (tgt := 215) (by decide +kernel) ⟨by omega, by omega⟩ (by omega) (by omega) (by rw [h87]; rfl) (by decide) ?_
                refine g_aload_n (i := 0) (by decide +kernel) rfl ?_
                refine g_aload_n (i := 0) (by decide +kernel) rfl ?_
                refine g_getr f_Nc_10 (by decide +kernel) (by omega) rfl rfl ?_
                refine g_getr f_Nc_167 (by decide +kernel) (by omega) rfl rfl ?_
                refine g_iload_n (i := 1) (by decide +kernel) rfl ?_
                refine g_iald (j := c.toNat) (by decide +kernel) (by omega) rfl (by omega) (by omega) (by decide) ?_
                refine g_cVI (st := _) (c_Nc_give hn) k_Nc_give l_Nc_208 (by decide +kernel) (by omega) rfl rfl rfl rfl (Nat.le_of_ble_eq_true rfl) (by decide) ⟨by decide, by decide⟩ ?_
                rintro a9 σ9 ⟨ea9, hσ9⟩
                obtain rfl := ea9.symm
                subst hσ9
                refine g_retI (by decide +kernel) rfl (Or.inl rfl) ⟨by decide, by decide⟩ ?_
                exact zRes.ok (zQf.rf ho hR) (by rw [if_neg (by omega), if_neg (by omega)]) (by unfold zclp; rw [if_neg (by omega), if_neg (by omega), if_neg (by omega), if_neg (by omega), if_neg (by omega), if_pos (by omega)]; rfl)
              · refine g_tableIn (dflt := 198) (lo := 0) (hi := 14) (offs := #[73, 87, 101, 115, 198, 198, 198, 198, 198, 198, 128, 142, 156, 170, 184]) (len := 73) (off := 142) (tgt := 229) (by decide +kernel) ⟨by omega, by omega⟩ (by omega) (by omega) (by rw [h87]; rfl) (by decide) ?_
                refine g_aload_n (i := 0) (by decide +kernel) rfl ?_
                refine g_aload_n (i := 0) (by decide +kernel) rfl ?_
                refine g_getr f_Nc_10 (by decide +kernel) (by omega) rfl rfl ?_
                refine g_getr f_Nc_170 (by decide +kernel) (by omega) rfl rfl ?_
                refine g_iload_n (i := 1) (by decide +kernel) rfl ?_
                refine g_iald (j := c.toNat) (by decide +kernel) (by omega) rfl (by omega) (by omega) (by decide) ?_
                refine g_cVI (st := _) (c_Nc_give hn) k_Nc_give l_Nc_208 (by decide +kernel) (by omega) rfl rfl rfl rfl (Nat.le_of_ble_eq_true rfl) (by decide) ⟨by decide, by decide⟩ ?_
                rintro a9 σ9 ⟨ea9, hσ9⟩
                obtain rfl := ea9.symm
                subst hσ9
                refine g_retI (by decide +kernel) rfl (Or.inl rfl) ⟨by decide, by decide⟩ ?_
                exact zRes.ok (zQf.rf ho hR) (by rw [if_neg (by omega), if_neg (by omega)]) (by unfold zclp; rw [if_neg (by omega), if_neg (by omega), if_neg (by omega), if_neg (by omega), if_neg (by omega), if_neg (by omega), if_pos (by omega)]; rfl)
              · refine g_tableIn (dflt := 198) (lo := 0) (hi := 14) (offs := #[73, 87, 101, 115, 198, 198, 198, 198, 198, 198, 128, 142, 156, 170, 184]) (len := 73) (off := 156) (tgt := 243) (by decide +kernel) ⟨by omega, by omega⟩ (by omega) (by omega) (by rw [h87]; rfl) (by decide) ?_
                refine g_aload_n (i := 0) (by decide +kernel) rfl ?_
                refine g_aload_n (i := 0) (by decide +kernel) rfl ?_
                refine g_getr f_Nc_10 (by decide +kernel) (by omega) rfl rfl ?_
                refine g_getr f_Nc_173 (by decide +kernel) (by omega) rfl rfl ?_
                refine g_iload_n (i := 1) (by decide +kernel) rfl ?_
                refine g_iald (j := c.toNat) (by decide +kernel) (by omega) rfl (by omega) (by omega) (by decide) ?_
                refine g_cVI (st := _) (c_Nc_give hn) k_Nc_give l_Nc_208 (by decide +kernel) (by omega) rfl rfl rfl rfl (Nat.le_of_ble_eq_true rfl) (by decide) ⟨by decide, by decide⟩ ?_
                rintro a9 σ9 ⟨ea9, hσ9⟩
                obtain rfl := ea9.symm
                subst hσ9
                refine g_retI (by decide +kernel) rfl (Or.inl rfl) ⟨by decide, by decide⟩ ?_
                exact zRes.ok (zQf.rf ho hR) (by rw [if_neg (by omega), if_neg (by omega)]) (by unfold zclp; rw [if_neg (by omega), if_neg (by omega), if_neg (by omega), if_neg (by omega), if_neg (by omega), if_neg (by omega), if_neg (by omega), if_pos (by omega)]; rfl)
              · refine g_tableIn (dflt := 198) (lo := 0) (hi := 14) (offs := #[73, 87, 101, 115, 198, 198, 198, 198, 198, 198, 128, 142, 156, 170, 184]) (len := 73) (off := 170) (tgt := 257) (by decide +kernel) ⟨by omega, by omega⟩ (by omega) (by omega) (by rw [h87]; rfl) (by decide) ?_
                refine g_aload_n (i := 0) (by decide +kernel) rfl ?_
                refine g_aload_n (i := 0) (by decide +kernel) rfl ?_
                refine g_getr f_Nc_22 (by decide +kernel) (by omega) rfl rfl ?_
                refine g_getr f_Nc_230 (by decide +kernel) (by omega) rfl rfl ?_
                refine g_iload_n (i := 1) (by decide +kernel) rfl ?_
                refine g_iald (j := c.toNat) (by decide +kernel) (by omega) rfl (by omega) (by omega) (by decide) ?_
                refine g_cVI (st := _) (c_Nc_give hn) k_Nc_give l_Nc_208 (by decide +kernel) (by omega) rfl rfl rfl rfl (Nat.le_of_ble_eq_true rfl) (by decide) ⟨by decide, by decide⟩ ?_
                rintro a9 σ9 ⟨ea9, hσ9⟩
                obtain rfl := ea9.symm
                subst hσ9
                refine g_retI (by decide +kernel) rfl (Or.inl rfl) ⟨by decide, by decide⟩ ?_
                exact zRes.ok (zQf.rf ho hR) (by rw [if_neg (by omega), if_neg (by omega)]) (by unfold zclp; rw [if_neg (by omega), if_neg (by omega), if_neg (by omega), if_neg (by omega), if_neg (by omega), if_neg (by omega), if_neg (by omega), if_neg (by omega), if_pos (by omega)]; exact (ho.si (by omega)).symm)
              · refine g_tableIn (dflt := 198) (lo := 0) (hi := 14) (offs := #[73, 87, 101, 115, 198, 198, 198, 198, 198, 198, 128, 142, 156, 170, 184]) (len := 73) (off := 184) (tgt := 271) (by decide +kernel) ⟨by omega, by omega⟩ (by omega) (by omega) (by rw [h87]; rfl) (by decide) ?_
                refine g_aload_n (i := 0) (by decide +kernel) rfl ?_
                refine g_aload_n (i := 0) (by decide +kernel) rfl ?_
                refine g_getr f_Nc_22 (by decide +kernel) (by omega) rfl rfl ?_
                refine g_getr f_Nc_233 (by decide +kernel) (by omega) rfl rfl ?_
                refine g_iload_n (i := 1) (by decide +kernel) rfl ?_
                refine g_iald (j := c.toNat) (by decide +kernel) (by omega) rfl (by omega) (by omega) (by decide) ?_
                refine g_cVI (st := _) (c_Nc_give hn) k_Nc_give l_Nc_208 (by decide +kernel) (by omega) rfl rfl rfl rfl (Nat.le_of_ble_eq_true rfl) (by decide) ⟨by decide, by decide⟩ ?_
                rintro a9 σ9 ⟨ea9, hσ9⟩
                obtain rfl := ea9.symm
                subst hσ9
                refine g_retI (by decide +kernel) rfl (Or.inl rfl) ⟨by decide, by decide⟩ ?_
                exact zRes.ok (zQf.rf ho hR) (by rw [if_neg (by omega), if_neg (by omega)]) (by unfold zclp; rw [if_neg (by omega), if_neg (by omega), if_neg (by omega), if_neg (by omega), if_neg (by omega), if_neg (by omega), if_neg (by omega), if_neg (by omega), if_neg (by omega), if_pos (by omega)]; exact (ho.ac (by omega)).symm)
              · refine g_tableOut (dflt := 198) (lo := 0) (hi := 14) (offs := #[73, 87, 101, 115, 198, 198, 198, 198, 198, 198, 128, 142, 156, 170, 184]) (len := 73) (tgt := 285) (by decide +kernel) ⟨by omega, by omega⟩ h87 (by decide) ?_
                refine g_aload_n (i := 0) (by decide +kernel) rfl ?_
                refine g_aload_n (i := 0) (by decide +kernel) rfl ?_
                refine g_getr f_Nc_22 (by decide +kernel) (by omega) rfl rfl ?_
                refine g_getr f_Nc_236 (by decide +kernel) (by omega) rfl rfl ?_
                refine g_iload_n (i := 1) (by decide +kernel) rfl ?_
                refine g_zald (j := c.toNat) (by decide +kernel) (by omega) rfl (by omega) (by omega) (by decide) ?_
                refine g_if_eq (off := 7) (tgt := 302) (by decide +kernel) (by decide) ⟨by omega, by omega⟩ (fun h295 => ?_) (fun h295 => ?_)
                · refine g_iconst (a := 0) (by decide +kernel) ?_
                  refine g_cVI (st := _) (c_Nc_give hn) k_Nc_give l_Nc_208 (by decide +kernel) (by omega) rfl rfl rfl rfl (Nat.le_of_ble_eq_true rfl) (by decide) ⟨by decide, by decide⟩ ?_
                  rintro a9 σ9 ⟨ea9, hσ9⟩
                  obtain rfl := ea9.symm
                  subst hσ9
                  refine g_retI (by decide +kernel) rfl (Or.inl rfl) ⟨by decide, by decide⟩ ?_
                  refine zRes.ok (zQf.rf ho hR) (by rw [if_neg (by omega), if_neg (by omega)]) ?_
                  unfold zclp
                  rw [if_neg (by omega), if_neg (by omega), if_neg (by omega), if_neg (by omega), if_neg (by omega), if_neg (by omega), if_neg (by omega), if_neg (by omega), if_neg (by omega), if_neg (by omega), if_pos (by omega), ← e26]
                  omega
                · refine g_iconst (a := 1) (by decide +kernel) ?_
                  refine g_goto (off := 4) (tgt := 303) (by decide +kernel) (by decide) ?_
                  refine g_cVI (st := _) (c_Nc_give hn) k_Nc_give l_Nc_208 (by decide +kernel) (by omega) rfl rfl rfl rfl (Nat.le_of_ble_eq_true rfl) (by decide) ⟨by decide, by decide⟩ ?_
                  rintro a9 σ9 ⟨ea9, hσ9⟩
                  obtain rfl := ea9.symm
                  subst hσ9
                  refine g_retI (by decide +kernel) rfl (Or.inl rfl) ⟨by decide, by decide⟩ ?_
                  refine zRes.ok (zQf.rf ho hR) (by rw [if_neg (by omega), if_neg (by omega)]) ?_
                  unfold zclp
                  rw [if_neg (by omega), if_neg (by omega), if_neg (by omega), if_neg (by omega), if_neg (by omega), if_neg (by omega), if_neg (by omega), if_neg (by omega), if_neg (by omega), if_neg (by omega), if_pos (by omega), ← e26]
                  omega
            · refine g_aload_n (i := 0) (by decide +kernel) rfl ?_
              refine g_aload_n (i := 0) (by decide +kernel) rfl ?_
              refine g_getr f_Nc_10 (by decide +kernel) (by omega) rfl rfl ?_
              refine g_iload_n (i := 1) (by decide +kernel) rfl ?_
              refine g_iload_n (i := 2) (by decide +kernel) rfl ?_
              refine g_bipush (a := 16) (by decide +kernel) (by decide) ?_
              refine g_isub (by decide +kernel) ?_
              refine g_bipush (a := 6) (by decide +kernel) (by decide) ?_
              refine g_iadd (by decide +kernel) ?_
              obtain ⟨k, ek⟩ := Int.eq_ofNat_of_zero_le h24.1
              have kt : c.toNat = k := by omega
              obtain ⟨v, ev⟩ := Int.eq_ofNat_of_zero_le (show 0 ≤ w - 16 + 6 by omega)
              rw [ek, ev]
              refine g_cVI (st := _) (c_Sh_markOf (b := 1) (k := k) (w := v) hn sh_1 (by omega) (by omega)) k_Sh_markOf l_Nc_160 (by decide +kernel) (by omega) rfl rfl rfl rfl (Nat.le_of_ble_eq_true rfl) (by decide) ⟨by decide, by decide⟩ ?_
              rintro a σ9 ⟨ea, hσ⟩
              obtain rfl := hσ.symm
              rw [← ek]
              have ea : a = σ 8 (9 * k + v) := ea
              refine g_cVI (st := _) (c_Nc_give hn) k_Nc_give l_Nc_208 (by decide +kernel) (by omega) rfl rfl rfl rfl (Nat.le_of_ble_eq_true rfl) (by decide) ⟨by decide, by decide⟩ ?_
              rintro a9 σ9 ⟨ea9, hσ9⟩
              obtain rfl := ea9.symm
              subst hσ9
              refine g_retI (by decide +kernel) rfl (Or.inl rfl) ⟨by decide, by decide⟩ ?_
              refine zRes.ok (zQf.rf ho hR) (by rw [if_neg (by omega), if_neg (by omega)]) ?_
              unfold zclp
              rw [if_neg (by omega), if_neg (by omega), if_neg (by omega), if_neg (by omega), if_neg (by omega), if_neg (by omega), if_neg (by omega), if_neg (by omega), if_neg (by omega), if_neg (by omega), if_neg (by omega), kt, show (w - 10).toNat = v by omega]
              exact ea.symm
          · refine g_aload_n (i := 0) (by decide +kernel) rfl ?_
            refine g_aload_n (i := 0) (by decide +kernel) rfl ?_
            refine g_getr f_Nc_10 (by decide +kernel) (by omega) rfl rfl ?_
            refine g_iload_n (i := 1) (by decide +kernel) rfl ?_
            refine g_iload_n (i := 2) (by decide +kernel) rfl ?_
            refine g_iconst (a := 4) (by decide +kernel) ?_
            refine g_isub (by decide +kernel) ?_
            obtain ⟨k, ek⟩ := Int.eq_ofNat_of_zero_le h24.1
            have kt : c.toNat = k := by omega
            obtain ⟨v, ev⟩ := Int.eq_ofNat_of_zero_le (show 0 ≤ w - 4 by omega)
            rw [ek, ev]
            refine g_cVI (st := _) (c_Sh_markOf (b := 1) (k := k) (w := v) hn sh_1 (by omega) (by omega)) k_Sh_markOf l_Nc_160 (by decide +kernel) (by omega) rfl rfl rfl rfl (Nat.le_of_ble_eq_true rfl) (by decide) ⟨by decide, by decide⟩ ?_
            rintro a σ9 ⟨ea, hσ⟩
            obtain rfl := hσ.symm
            rw [← ek]
            have ea : a = σ 8 (9 * k + v) := ea
            refine g_cVI (st := _) (c_Nc_give hn) k_Nc_give l_Nc_208 (by decide +kernel) (by omega) rfl rfl rfl rfl (Nat.le_of_ble_eq_true rfl) (by decide) ⟨by decide, by decide⟩ ?_
            rintro a9 σ9 ⟨ea9, hσ9⟩
            obtain rfl := ea9.symm
            subst hσ9
            refine g_retI (by decide +kernel) rfl (Or.inl rfl) ⟨by decide, by decide⟩ ?_
            refine zRes.ok (zQf.rf ho hR) (by rw [if_neg (by omega), if_neg (by omega)]) ?_
            unfold zclp
            rw [if_neg (by omega), if_neg (by omega), if_neg (by omega), if_neg (by omega), if_pos (by omega), kt, ev, Int.toNat_natCast]
            exact ea.symm
      · have h24 := zb0.mp h24
        refine g_aload_n (i := 0) (by decide +kernel) rfl ?_
        refine g_iconst (a := 2) (by decide +kernel) ?_
        refine g_cVI (st := _) (c_Nc_refuse hn) k_Nc_refuse l_Nc_97 (by decide +kernel) (by omega) rfl rfl rfl rfl (Nat.le_of_ble_eq_true rfl) (by decide) ⟨by decide, by decide⟩ ?_
        rintro a9 σ9 ⟨ea9, hσ9⟩
        obtain rfl := ea9.symm
        subst hσ9
        refine g_retI (by decide +kernel) rfl (Or.inl rfl) ⟨by decide, by decide⟩ ?_
        exact zRes.no (zQf.rf ho hR) (by rw [if_neg (by omega), if_pos h24]) (by decide)
    · refine g_aload_n (i := 0) (by decide +kernel) rfl ?_
      refine g_iconst (a := 1) (by decide +kernel) ?_
      refine g_cVI (st := _) (c_Nc_refuse hn) k_Nc_refuse l_Nc_97 (by decide +kernel) (by omega) rfl rfl rfl rfl (Nat.le_of_ble_eq_true rfl) (by decide) ⟨by decide, by decide⟩ ?_
      rintro a9 σ9 ⟨ea9, hσ9⟩
      obtain rfl := ea9.symm
      subst hσ9
      refine g_retI (by decide +kernel) rfl (Or.inl rfl) ⟨by decide, by decide⟩ ?_
      exact zRes.no (zQf.rf ho hR) (if_pos (by omega)) (by decide)
theorem c_Nc_many {G : zG} {n : Nat} {σ : zSt} {w : Int} (hn : 189 ≤ n) (ho : zOn σ) (hR : zRs (σ 93)) (z1 : zr w) : Gm G y_Nc_many m_Nc_many 6 0 0 [vr G 0, vi w] n SH σ (zI n SH (fun a σ' => zRes σ σ' a (if w < 0 ∨ 9 < w then 1 else 0) (if w = 0 then σ 1 0 else if w = 1 then (zlvs (zSv σ 1) : Int) else if w = 2 then σ 1 8 else if w = 3 then σ 95 2 else if w = 4 then zlast (zSv σ 1) else if w = 5 then σ 182 0 else if w = 6 then (zcnt (fun j => zOk (zSv σ 1) j) (σ 1 0).toNat : Int) else if w = 7 then (zcnt (fun s => decide (1 ≤ s) && zdif (zSv σ 1) (s : Int) ((s : Int) - 1)) 2000 : Int) else if w = 8 then σ 182 1 else σ 177 1))) := by
  refine g_enter (L := [(0, _), (1, _)]) (by decide) rfl rfl rfl (Nat.le_of_ble_eq_true rfl) (fun X => ?_)
  have hc := ho.1.1
  obtain ⟨z1a, z1b⟩ := id z1
  obtain ⟨N, eN⟩ := Int.eq_ofNat_of_zero_le hc.1
  have NN : zN (zSv σ 1) = N := by show (σ 1 0).toNat = N; omega
  refine g_iload_n (i := 1) (by decide +kernel) rfl ?_
  rcases (by omega : w = 0 ∨ w = 1 ∨ w = 2 ∨ w = 3 ∨ w = 4 ∨ w = 5 ∨ w = 6 ∨ w = 7 ∨ w = 8 ∨ w = 9 ∨ (w < 0 ∨ 9 < w)) with h1 | h1 | h1 | h1 | h1 | h1 | h1 | h1 | h1 | h1 | h1
  · refine g_tableIn (dflt := 179) (lo := 0) (hi := 9) (offs := #[55, 67, 79, 91, 103, 115, 127, 146, 155, 167]) (len := 55) (off := 55) (tgt := 56) (by decide +kernel) ⟨by omega, by omega⟩ (by omega) (by omega) (by rw [h1]; rfl) (by decide) ?_
    refine g_aload_n (i := 0) (by decide +kernel) rfl ?_
    refine g_aload_n (i := 0) (by decide +kernel) rfl ?_
    refine g_getr f_Nc_10 (by decide +kernel) (by omega) rfl rfl ?_
    refine g_geti f_Nc_111 (by decide +kernel) (by omega) rfl rfl ?_
    refine g_cVI (st := _) (c_Nc_give hn) k_Nc_give l_Nc_208 (by decide +kernel) (by omega) rfl rfl rfl rfl (Nat.le_of_ble_eq_true rfl) (by decide) ⟨by decide, by decide⟩ ?_
    rintro a9 σ9 ⟨ea9, hσ9⟩
    obtain rfl := ea9.symm
    subst hσ9
    refine g_retI (by decide +kernel) rfl (Or.inl rfl) ⟨by decide, by decide⟩ ?_
    refine zRes.ok (zQf.rf ho hR) (if_neg (by omega)) ?_
    rw [if_pos (by omega)]
  · refine g_tableIn (dflt := 179) (lo := 0) (hi := 9) (offs := #[55, 67, 79, 91, 103, 115, 127, 146, 155, 167]) (len := 55) (off := 67) (tgt := 68) (by decide +kernel) ⟨by omega, by omega⟩ (by omega) (by omega) (by rw [h1]; rfl) (by decide) ?_
    refine g_aload_n (i := 0) (by decide +kernel) rfl ?_
    refine g_aload_n (i := 0) (by decide +kernel) rfl ?_
    refine g_getr f_Nc_10 (by decide +kernel) (by omega) rfl rfl ?_
    refine g_cVI (st := _) (c_Sh_leaves (b := 1) hn sh_1 ho.1) k_Sh_leaves l_Nc_211 (by decide +kernel) (by omega) rfl rfl rfl rfl (Nat.le_of_ble_eq_true rfl) (by decide) ⟨by decide, by decide⟩ ?_
    rintro a σ9 ⟨ea, hσ⟩
    obtain rfl := hσ.symm
    refine g_cVI (st := _) (c_Nc_give hn) k_Nc_give l_Nc_208 (by decide +kernel) (by omega) rfl rfl rfl rfl (Nat.le_of_ble_eq_true rfl) (by decide) ⟨by decide, by decide⟩ ?_
    rintro a9 σ9 ⟨ea9, hσ9⟩
    obtain rfl := ea9.symm
    subst hσ9
    refine g_retI (by decide +kernel) rfl (Or.inl rfl) ⟨by decide, by decide⟩ ?_
    refine zRes.ok (zQf.rf ho hR) (if_neg (by omega)) ?_
    rw [if_neg (by omega), if_pos (by omega)]
    exact ea.symm
  · refine g_tableIn (dflt := 179) (lo := 0) (hi := 9) (offs := #[55, 67, 79, 91, 103, 115, 127, 146, 155, 167]) (len := 55) (off := 79) (tgt := 80) (by decide +kernel) ⟨by omega, by omega⟩ (by omega) (by omega) (by rw [h1]; rfl) (by decide) ?_
    refine g_aload_n (i := 0) (by decide +kernel) rfl ?_
    refine g_aload_n (i := 0) (by decide +kernel) rfl ?_
    refine g_getr f_Nc_10 (by decide +kernel) (by omega) rfl rfl ?_
    refine g_geti f_Nc_190 (by decide +kernel) (by omega) rfl rfl ?_
    refine g_cVI (st := _) (c_Nc_give hn) k_Nc_give l_Nc_208 (by decide +kernel) (by omega) rfl rfl rfl rfl (Nat.le_of_ble_eq_true rfl) (by decide) ⟨by decide, by decide⟩ ?_
    rintro a9 σ9 ⟨ea9, hσ9⟩
    obtain rfl := ea9.symm
    subst hσ9
    refine g_retI (by decide +kernel) rfl (Or.inl rfl) ⟨by decide, by decide⟩ ?_
    refine zRes.ok (zQf.rf ho hR) (if_neg (by omega)) ?_
    rw [if_neg (by omega), if_neg (by omega), if_pos (by omega)]
  · refine g_tableIn (dflt := 179) (lo := 0) (hi := 9) (offs := #[55, 67, 79, 91, 103, 115, 127, 146, 155, 167]) (len := 55) (off := 91) (tgt := 92) (by decide +kernel) ⟨by omega, by omega⟩ (by omega) (by omega) (by rw [h1]; rfl) (by decide) ?_
    refine g_aload_n (i := 0) (by decide +kernel) rfl ?_
    refine g_aload_n (i := 0) (by decide +kernel) rfl ?_
    refine g_getr f_Nc_50 (by decide +kernel) (by omega) rfl rfl ?_
    refine g_geti f_Nc_202 (by decide +kernel) (by omega) rfl rfl ?_
    refine g_cVI (st := _) (c_Nc_give hn) k_Nc_give l_Nc_208 (by decide +kernel) (by omega) rfl rfl rfl rfl (Nat.le_of_ble_eq_true rfl) (by decide) ⟨by decide, by decide⟩ ?_
    rintro a9 σ9 ⟨ea9, hσ9⟩
    obtain rfl := ea9.symm
    subst hσ9
    refine g_retI (by decide +kernel) rfl (Or.inl rfl) ⟨by decide, by decide⟩ ?_
    refine zRes.ok (zQf.rf ho hR) (if_neg (by omega)) ?_
    rw [if_neg (by omega), if_neg (by omega), if_neg (by omega), if_pos (by omega)]
  · refine g_tableIn (dflt := 179) (lo := 0) (hi := 9) (offs := #[55, 67, 79, 91, 103, 115, 127, 146, 155, 167]) (len := 55) (off := 103) (tgt := 104) (by decide +kernel) ⟨by omega, by omega⟩ (by omega) (by omega) (by rw [h1]; rfl) (by decide) ?_
    refine g_aload_n (i := 0) (by decide +kernel) rfl ?_
    refine g_aload_n (i := 0) (by decide +kernel) rfl ?_
    refine g_getr f_Nc_22 (by decide +kernel) (by omega) rfl rfl ?_
    refine g_geti f_Nc_215 (by decide +kernel) (by omega) rfl rfl ?_
    refine g_cVI (st := _) (c_Nc_give hn) k_Nc_give l_Nc_208 (by decide +kernel) (by omega) rfl rfl rfl rfl (Nat.le_of_ble_eq_true rfl) (by decide) ⟨by decide, by decide⟩ ?_
    rintro a9 σ9 ⟨ea9, hσ9⟩
    obtain rfl := ea9.symm
    subst hσ9
    refine g_retI (by decide +kernel) rfl (Or.inl rfl) ⟨by decide, by decide⟩ ?_
    refine zRes.ok (zQf.rf ho hR) (if_neg (by omega)) ?_
    rw [if_neg (by omega), if_neg (by omega), if_neg (by omega), if_neg (by omega), if_pos (by omega)]
    exact ho.lst.symm
  · refine g_tableIn (dflt := 179) (lo := 0) (hi := 9) (offs := #[55, 67, 79, 91, 103, 115, 127, 146, 155, 167]) (len := 55) (off := 115) (tgt := 116) (by decide +kernel) ⟨by omega, by omega⟩ (by omega) (by omega) (by rw [h1]; rfl) (by decide) ?_
    refine g_aload_n (i := 0) (by decide +kernel) rfl ?_
    refine g_aload_n (i := 0) (by decide +kernel) rfl ?_
    refine g_getr f_Nc_73 (by decide +kernel) (by omega) rfl rfl ?_
    refine g_geti f_Nc_218 (by decide +kernel) (by omega) rfl rfl ?_
    refine g_cVI (st := _) (c_Nc_give hn) k_Nc_give l_Nc_208 (by decide +kernel) (by omega) rfl rfl rfl rfl (Nat.le_of_ble_eq_true rfl) (by decide) ⟨by decide, by decide⟩ ?_
    rintro a9 σ9 ⟨ea9, hσ9⟩
    obtain rfl := ea9.symm
    subst hσ9
    refine g_retI (by decide +kernel) rfl (Or.inl rfl) ⟨by decide, by decide⟩ ?_
    refine zRes.ok (zQf.rf ho hR) (if_neg (by omega)) ?_
    rw [if_neg (by omega), if_neg (by omega), if_neg (by omega), if_neg (by omega), if_neg (by omega), if_pos (by omega)]
  · refine g_tableIn (dflt := 179) (lo := 0) (hi := 9) (offs := #[55, 67, 79, 91, 103, 115, 127, 146, 155, 167]) (len := 55) (off := 127) (tgt := 128) (by decide +kernel) ⟨by omega, by omega⟩ (by omega) (by omega) (by rw [h1]; rfl) (by decide) ?_
    refine g_aload_n (i := 0) (by decide +kernel) rfl ?_
    refine g_aload_n (i := 0) (by decide +kernel) rfl ?_
    refine g_getr f_Nc_22 (by decide +kernel) (by omega) rfl rfl ?_
    refine g_aload_n (i := 0) (by decide +kernel) rfl ?_
    refine g_getr f_Nc_10 (by decide +kernel) (by omega) rfl rfl ?_
    refine g_geti f_Nc_111 (by decide +kernel) (by omega) rfl rfl ?_
    rw [eN]
    refine g_cVI (st := _) (c_La_howManyOpen (c := 21) (N := N) hn la_21 (by omega) ho.2.2.1.2.2.1) k_La_howManyOpen l_Nc_221 (by decide +kernel) (by omega) rfl rfl rfl rfl (Nat.le_of_ble_eq_true rfl) (by decide) ⟨by decide, by decide⟩ ?_
    rintro a σ9 ⟨ea, hσ⟩
    obtain rfl := hσ.symm
    refine g_cVI (st := _) (c_Nc_give hn) k_Nc_give l_Nc_208 (by decide +kernel) (by omega) rfl rfl rfl rfl (Nat.le_of_ble_eq_true rfl) (by decide) ⟨by decide, by decide⟩ ?_
    rintro a9 σ9 ⟨ea9, hσ9⟩
    obtain rfl := ea9.symm
    subst hσ9
    refine g_retI (by decide +kernel) rfl (Or.inl rfl) ⟨by decide, by decide⟩ ?_
    refine zRes.ok (zQf.rf ho hR) (if_neg (by omega)) ?_
    rw [if_neg (by omega), if_neg (by omega), if_neg (by omega), if_neg (by omega), if_neg (by omega), if_neg (by omega), if_pos (by omega)]
    rw [ea, Int.toNat_natCast]
    refine congrArg (fun x : Nat => (x : Int)) (zcnt_congr (fun j hj => ?_))
    have e26 := ho.opn (k := j) (by omega)
    rw [show σ (21 + 5) j = σ 26 j from rfl, e26]
    cases zOk (zSv σ 1) j <;> rfl
  · refine g_tableIn (dflt := 179) (lo := 0) (hi := 9) (offs := #[55, 67, 79, 91, 103, 115, 127, 146, 155, 167]) (len := 55) (off := 146) (tgt := 147) (by decide +kernel) ⟨by omega, by omega⟩ (by omega) (by omega) (by rw [h1]; rfl) (by decide) ?_
    refine g_aload_n (i := 0) (by decide +kernel) rfl ?_
    refine g_aload_n (i := 0) (by decide +kernel) rfl ?_
    refine g_cVI (st := _) (c_Nc_changes hn ho hR) k_Nc_changes l_Nc_224 (by decide +kernel) (by omega) rfl rfl rfl rfl (Nat.le_of_ble_eq_true rfl) (by decide) ⟨by decide, by decide⟩ ?_
    rintro a τ ⟨hL, ea⟩
    refine g_cVI (st := _) (c_Nc_give hn) k_Nc_give l_Nc_208 (by decide +kernel) (by omega) rfl rfl rfl rfl (Nat.le_of_ble_eq_true rfl) (by decide) ⟨by decide, by decide⟩ ?_
    rintro a9 σ9 ⟨ea9, hσ9⟩
    obtain rfl := ea9.symm
    subst hσ9
    refine g_retI (by decide +kernel) rfl (Or.inl rfl) ⟨by decide, by decide⟩ ?_
    refine zRes.ok (hL.q hR) (if_neg (by omega)) ?_
    rw [if_neg (by omega), if_neg (by omega), if_neg (by omega), if_neg (by omega), if_neg (by omega), if_neg (by omega), if_neg (by omega), if_pos (by omega)]
    exact ea.symm
  · refine g_tableIn (dflt := 179) (lo := 0) (hi := 9) (offs := #[55, 67, 79, 91, 103, 115, 127, 146, 155, 167]) (len := 55) (off := 155) (tgt := 156) (by decide +kernel) ⟨by omega, by omega⟩ (by omega) (by omega) (by rw [h1]; rfl) (by decide) ?_
    refine g_aload_n (i := 0) (by decide +kernel) rfl ?_
    refine g_aload_n (i := 0) (by decide +kernel) rfl ?_
    refine g_getr f_Nc_73 (by decide +kernel) (by omega) rfl rfl ?_
    refine g_geti f_Nc_227 (by decide +kernel) (by omega) rfl rfl ?_
    refine g_cVI (st := _) (c_Nc_give hn) k_Nc_give l_Nc_208 (by decide +kernel) (by omega) rfl rfl rfl rfl (Nat.le_of_ble_eq_true rfl) (by decide) ⟨by decide, by decide⟩ ?_
    rintro a9 σ9 ⟨ea9, hσ9⟩
    obtain rfl := ea9.symm
    subst hσ9
    refine g_retI (by decide +kernel) rfl (Or.inl rfl) ⟨by decide, by decide⟩ ?_
    refine zRes.ok (zQf.rf ho hR) (if_neg (by omega)) ?_
    rw [if_neg (by omega), if_neg (by omega), if_neg (by omega), if_neg (by omega), if_neg (by omega), if_neg (by omega), if_neg (by omega), if_neg (by omega), if_pos (by omega)]
  · refine g_tableIn (dflt := 179) (lo := 0) (hi := 9) (offs := #[55, 67, 79, 91, 103, 115, 127, 146, 155, 167]) (len := 55) (off := 167) (tgt := 168) (by decide +kernel) ⟨by omega, by omega⟩ (by omega) (by omega) (by rw [h1]; rfl) (by decide) ?_
    refine g_aload_n (i := 0) (by decide +kernel) rfl ?_
    refine g_aload_n (i := 0) (by decide +kernel) rfl ?_
    refine g_getr f_Nc_57 (by decide +kernel) (by omega) rfl rfl ?_
    refine g_geti f_Nc_90 (by decide +kernel) (by omega) rfl rfl ?_
    refine g_cVI (st := _) (c_Nc_give hn) k_Nc_give l_Nc_208 (by decide +kernel) (by omega) rfl rfl rfl rfl (Nat.le_of_ble_eq_true rfl) (by decide) ⟨by decide, by decide⟩ ?_
    rintro a9 σ9 ⟨ea9, hσ9⟩
    obtain rfl := ea9.symm
    subst hσ9
    refine g_retI (by decide +kernel) rfl (Or.inl rfl) ⟨by decide, by decide⟩ ?_
    refine zRes.ok (zQf.rf ho hR) (if_neg (by omega)) ?_
    rw [if_neg (by omega), if_neg (by omega), if_neg (by omega), if_neg (by omega), if_neg (by omega), if_neg (by omega), if_neg (by omega), if_neg (by omega), if_neg (by omega)]
  · refine g_tableOut (dflt := 179) (lo := 0) (hi := 9) (offs := #[55, 67, 79, 91, 103, 115, 127, 146, 155, 167]) (len := 55) (tgt := 180) (by decide +kernel) ⟨by omega, by omega⟩ h1 (by decide) ?_
    refine g_aload_n (i := 0) (by decide +kernel) rfl ?_
    refine g_iconst (a := 1) (by decide +kernel) ?_
    refine g_cVI (st := _) (c_Nc_refuse hn) k_Nc_refuse l_Nc_97 (by decide +kernel) (by omega) rfl rfl rfl rfl (Nat.le_of_ble_eq_true rfl) (by decide) ⟨by decide, by decide⟩ ?_
    rintro a9 σ9 ⟨ea9, hσ9⟩
    obtain rfl := ea9.symm
    subst hσ9
    refine g_retI (by decide +kernel) rfl (Or.inl rfl) ⟨by decide, by decide⟩ ?_
    exact zRes.no (zQf.rf ho hR) (if_pos (by omega)) (by decide)
