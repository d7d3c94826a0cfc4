theorem c_Nc_state {G : zG} {n : Nat} {σ : zSt} {c t : Int} (hn : 189 ≤ n) (ho : zOn σ) (hR : zRs (σ 93)) (z1 : zr c) (z2 : zr t) : Gm G y_Nc_state m_Nc_state 5 0 0 [vr G 0, vi c, vi t] n SH σ (zI n SH (fun a σ' => zRes σ σ' a (zwa (σ 1 0) t c) (zv (zSv σ 1) t 1 c.toNat))) := by
  refine g_enter (L := [(0, _), (1, _), (2, _)]) (by decide) rfl rfl rfl (Nat.le_of_ble_eq_true rfl) (fun X => ?_)
  have hc := ho.1.1
  obtain ⟨z1a, z1b⟩ := id z1
  obtain ⟨z2a, z2b⟩ := id z2
  refine g_aload_n (i := 0) (by decide +kernel) rfl ?_
  refine g_iload_n (i := 1) (by decide +kernel) rfl ?_
  refine g_iload_n (i := 2) (by decide +kernel) rfl ?_
  refine g_cVI (st := _) (c_Nc_whyNotAt hn ho hR (by assumption) (by assumption)) k_Nc_whyNotAt l_Nc_252 (by decide +kernel) (by omega) rfl rfl rfl rfl (Nat.le_of_ble_eq_true rfl) (by decide) ⟨by decide, by decide⟩ ?_
  rintro a σ9 ⟨ea, hσ⟩
  obtain rfl := hσ.symm
  subst ea
  have zw := @zwa_r (σ 1 0) t c
  refine g_istore_n (i := 3) (L' := [(0, _), (1, _), (2, _), (3, _)]) (by decide +kernel) rfl rfl ?_
  refine g_iload_n (i := 3) (by decide +kernel) rfl ?_
  refine g_if_eq (off := 11) (tgt := 19) (by decide +kernel) (by decide) ⟨by omega, by omega⟩ (fun h8 => ?_) (fun h8 => ?_)
  · have h80 := zwa_0.mp h8
    refine g_aload_n (i := 0) (by decide +kernel) rfl ?_
    refine g_aload_n (i := 0) (by decide +kernel) rfl ?_
    refine g_getr f_Nc_34 (by decide +kernel) (by omega) rfl rfl ?_
    refine g_iload_n (i := 2) (by decide +kernel) rfl ?_
    refine g_cVO (st := _) (c_Sg_at hn ho ⟨by omega, by omega⟩) k_Sg_at l_Nc_255 (by decide +kernel) (by omega) rfl rfl rfl rfl (Nat.le_of_ble_eq_true rfl) (by decide) ⟨by decide, by decide⟩ ?_
    rintro q τ1 ⟨eq, hA⟩
    subst eq
    refine g_getr f_Nc_259 (by decide +kernel) (by omega) rfl rfl ?_
    refine g_iload_n (i := 1) (by decide +kernel) rfl ?_
    refine g_iald (j := c.toNat) (by decide +kernel) (by omega) rfl (by omega) (by omega) (by decide) ?_
    refine g_cVI (st := _) (c_Nc_give hn) k_Nc_give l_Nc_208 (by decide +kernel) (by omega) rfl rfl rfl rfl (Nat.le_of_ble_eq_true rfl) (by decide) ⟨by decide, by decide⟩ ?_
    rintro a9 σ9 ⟨ea9, hσ9⟩
    obtain rfl := ea9.symm
    subst hσ9
    refine g_retI (by decide +kernel) rfl (Or.inl rfl) ⟨by decide, by decide⟩ ?_
    first
      | exact zRes.no (zQf.rf ho hR) rfl h8
      | exact zRes.ok (zQf.at hA ho hR) h8 (hA.2.2.1 c.toNat (by omega) 1 (by decide) (by decide)).symm
  · refine g_aload_n (i := 0) (by decide +kernel) rfl ?_
    refine g_iload_n (i := 3) (by decide +kernel) rfl ?_
    refine g_cVI (st := _) (c_Nc_refuse hn) k_Nc_refuse l_Nc_97 (by decide +kernel) (by omega) rfl rfl rfl rfl (Nat.le_of_ble_eq_true rfl) (by decide) ⟨by decide, by decide⟩ ?_
    rintro a9 σ9 ⟨ea9, hσ9⟩
    obtain rfl := ea9.symm
    subst hσ9
    refine g_goto (off := 20) (tgt := 36) (by decide +kernel) (by decide) ?_
    refine g_retI (by decide +kernel) rfl (Or.inl rfl) ⟨by decide, by decide⟩ ?_
    first
      | exact zRes.no (zQf.rf ho hR) rfl h8
      | exact zRes.ok (zQf.at hA ho hR) h8 (hA.2.2.1 c.toNat (by omega) 1 (by decide) (by decide)).symm
theorem c_Nc_strength {G : zG} {n : Nat} {σ : zSt} {c t : Int} (hn : 189 ≤ n) (ho : zOn σ) (hR : zRs (σ 93)) (z1 : zr c) (z2 : zr t) : Gm G y_Nc_strength m_Nc_strength 5 0 0 [vr G 0, vi c, vi t] n SH σ (zI n SH (fun a σ' => zRes σ σ' a (zwa (σ 1 0) t c) (zv (zSv σ 1) t 6 c.toNat))) := by
  refine g_enter (L := [(0, _), (1, _), (2, _)]) (by decide) rfl rfl rfl (Nat.le_of_ble_eq_true rfl) (fun X => ?_)
  have hc := ho.1.1
  obtain ⟨z1a, z1b⟩ := id z1
  obtain ⟨z2a, z2b⟩ := id z2
  refine g_aload_n (i := 0) (by decide +kernel) rfl ?_
  refine g_iload_n (i := 1) (by decide +kernel) rfl ?_
  refine g_iload_n (i := 2) (by decide +kernel) rfl ?_
  refine g_cVI (st := _) (c_Nc_whyNotAt hn ho hR (by assumption) (by assumption)) k_Nc_whyNotAt l_Nc_252 (by decide +kernel) (by omega) rfl rfl rfl rfl (Nat.le_of_ble_eq_true rfl) (by decide) ⟨by decide, by decide⟩ ?_
  rintro a σ9 ⟨ea, hσ⟩
  obtain rfl := hσ.symm
  subst ea
  have zw := @zwa_r (σ 1 0) t c
  refine g_istore_n (i := 3) (L' := [(0, _), (1, _), (2, _), (3, _)]) (by decide +kernel) rfl rfl ?_
  refine g_iload_n (i := 3) (by decide +kernel) rfl ?_
  refine g_if_eq (off := 11) (tgt := 19) (by decide +kernel) (by decide) ⟨by omega, by omega⟩ (fun h8 => ?_) (fun h8 => ?_)
  · have h80 := zwa_0.mp h8
    refine g_aload_n (i := 0) (by decide +kernel) rfl ?_
    refine g_aload_n (i := 0) (by decide +kernel) rfl ?_
    refine g_getr f_Nc_34 (by decide +kernel) (by omega) rfl rfl ?_
    refine g_iload_n (i := 2) (by decide +kernel) rfl ?_
    refine g_cVO (st := _) (c_Sg_at hn ho ⟨by omega, by omega⟩) k_Sg_at l_Nc_255 (by decide +kernel) (by omega) rfl rfl rfl rfl (Nat.le_of_ble_eq_true rfl) (by decide) ⟨by decide, by decide⟩ ?_
    rintro q τ1 ⟨eq, hA⟩
    subst eq
    refine g_getr f_Nc_277 (by decide +kernel) (by omega) rfl rfl ?_
    refine g_iload_n (i := 1) (by decide +kernel) rfl ?_
    refine g_iald (j := c.toNat) (by decide +kernel) (by omega) rfl (by omega) (by omega) (by decide) ?_
    refine g_cVI (st := _) (c_Nc_give hn) k_Nc_give l_Nc_208 (by decide +kernel) (by omega) rfl rfl rfl rfl (Nat.le_of_ble_eq_true rfl) (by decide) ⟨by decide, by decide⟩ ?_
    rintro a9 σ9 ⟨ea9, hσ9⟩
    obtain rfl := ea9.symm
    subst hσ9
    refine g_retI (by decide +kernel) rfl (Or.inl rfl) ⟨by decide, by decide⟩ ?_
    first
      | exact zRes.no (zQf.rf ho hR) rfl h8
      | exact zRes.ok (zQf.at hA ho hR) h8 (hA.2.2.1 c.toNat (by omega) 6 (by decide) (by decide)).symm
  · refine g_aload_n (i := 0) (by decide +kernel) rfl ?_
    refine g_iload_n (i := 3) (by decide +kernel) rfl ?_
    refine g_cVI (st := _) (c_Nc_refuse hn) k_Nc_refuse l_Nc_97 (by decide +kernel) (by omega) rfl rfl rfl rfl (Nat.le_of_ble_eq_true rfl) (by decide) ⟨by decide, by decide⟩ ?_
    rintro a9 σ9 ⟨ea9, hσ9⟩
    obtain rfl := ea9.symm
    subst hσ9
    refine g_goto (off := 20) (tgt := 36) (by decide +kernel) (by decide) ?_
    refine g_retI (by decide +kernel) rfl (Or.inl rfl) ⟨by decide, by decide⟩ ?_
    first
      | exact zRes.no (zQf.rf ho hR) rfl h8
      | exact zRes.ok (zQf.at hA ho hR) h8 (hA.2.2.1 c.toNat (by omega) 6 (by decide) (by decide)).symm
theorem c_Nc_share {G : zG} {n : Nat} {σ : zSt} {c t : Int} (hn : 189 ≤ n) (ho : zOn σ) (hR : zRs (σ 93)) (z1 : zr c) (z2 : zr t) : Gm G y_Nc_share m_Nc_share 5 0 0 [vr G 0, vi c, vi t] n SH σ (zI n SH (fun a σ' => zRes σ σ' a (if zwa (σ 1 0) t c ≠ 0 then zwa (σ 1 0) t c else if σ 2 c.toNat ≠ 0 then 5 else 0) (zv (zSv σ 1) t 7 c.toNat))) := by
  refine g_enter (L := [(0, _), (1, _), (2, _)]) (by decide) rfl rfl rfl (Nat.le_of_ble_eq_true rfl) (fun X => ?_)
  have hc := ho.1.1
  obtain ⟨z1a, z1b⟩ := id z1
  obtain ⟨z2a, z2b⟩ := id z2
  refine g_aload_n (i := 0) (by decide +kernel) rfl ?_
  refine g_iload_n (i := 1) (by decide +kernel) rfl ?_
  refine g_iload_n (i := 2) (by decide +kernel) rfl ?_
  refine g_cVI (st := _) (c_Nc_whyNotAt hn ho hR (by assumption) (by assumption)) k_Nc_whyNotAt l_Nc_252 (by decide +kernel) (by omega) rfl rfl rfl rfl (Nat.le_of_ble_eq_true rfl) (by decide) ⟨by decide, by decide⟩ ?_
  rintro a σ9 ⟨ea, hσ⟩
  obtain rfl := hσ.symm
  subst ea
  have zw := @zwa_r (σ 1 0) t c
  refine g_istore_n (i := 3) (L' := [(0, _), (1, _), (2, _), (3, _)]) (by decide +kernel) rfl rfl ?_
  refine g_iload_n (i := 3) (by decide +kernel) rfl ?_
  refine g_if_eq (off := 9) (tgt := 17) (by decide +kernel) (by decide) ⟨by omega, by omega⟩ (fun h8 => ?_) (fun h8 => ?_)
  · have h80 := zwa_0.mp h8
    have kg := (ho.kr (show c.toNat < 12 by omega)).1
    refine g_aload_n (i := 0) (by decide +kernel) rfl ?_
    refine g_getr f_Nc_10 (by decide +kernel) (by omega) rfl rfl ?_
    refine g_getr f_Nc_124 (by decide +kernel) (by omega) rfl rfl ?_
    refine g_iload_n (i := 1) (by decide +kernel) rfl ?_
    refine g_iald (j := c.toNat) (by decide +kernel) (by omega) rfl (by omega) (by omega) (by decide) ?_
    refine g_if_eq (off := 11) (tgt := 37) (by decide +kernel) (by decide) ⟨by omega, by omega⟩ (fun h26 => ?_) (fun h26 => ?_)
    · refine g_aload_n (i := 0) (by decide +kernel) rfl ?_
      refine g_aload_n (i := 0) (by decide +kernel) rfl ?_
      refine g_getr f_Nc_34 (by decide +kernel) (by omega) rfl rfl ?_
      refine g_iload_n (i := 2) (by decide +kernel) rfl ?_
      refine g_cVO (st := _) (c_Sg_at hn ho ⟨by omega, by omega⟩) k_Sg_at l_Nc_255 (by decide +kernel) (by omega) rfl rfl rfl rfl (Nat.le_of_ble_eq_true rfl) (by decide) ⟨by decide, by decide⟩ ?_
      rintro q τ1 ⟨eq, hA⟩
      subst eq
      refine g_getr f_Nc_280 (by decide +kernel) (by omega) rfl rfl ?_
      refine g_iload_n (i := 1) (by decide +kernel) rfl ?_
      refine g_iald (j := c.toNat) (by decide +kernel) (by omega) rfl (by omega) (by omega) (by decide) ?_
      refine g_cVI (st := _) (c_Nc_give hn) k_Nc_give l_Nc_208 (by decide +kernel) (by omega) rfl rfl rfl rfl (Nat.le_of_ble_eq_true rfl) (by decide) ⟨by decide, by decide⟩ ?_
      rintro a9 σ9 ⟨ea9, hσ9⟩
      obtain rfl := ea9.symm
      subst hσ9
      refine g_retI (by decide +kernel) rfl (Or.inl rfl) ⟨by decide, by decide⟩ ?_
      first
        | (have hz : σ 2 c.toNat ≠ 0 := h26
           exact zRes.no (zQf.rf ho hR) (by rw [if_neg (fun q => q h8), if_pos hz]) (by decide))
        | (have hz : σ 2 c.toNat = 0 := h26
           exact zRes.ok (zQf.at hA ho hR) (by rw [if_neg (fun q => q h8), if_neg (fun q => q hz)]) (hA.2.2.2.1 c.toNat (by omega) hz).symm)
    · refine g_aload_n (i := 0) (by decide +kernel) rfl ?_
      refine g_iconst (a := 5) (by decide +kernel) ?_
      refine g_cVI (st := _) (c_Nc_refuse hn) k_Nc_refuse l_Nc_97 (by decide +kernel) (by omega) rfl rfl rfl rfl (Nat.le_of_ble_eq_true rfl) (by decide) ⟨by decide, by decide⟩ ?_
      rintro a9 σ9 ⟨ea9, hσ9⟩
      obtain rfl := ea9.symm
      subst hσ9
      refine g_goto (off := 20) (tgt := 54) (by decide +kernel) (by decide) ?_
      refine g_retI (by decide +kernel) rfl (Or.inl rfl) ⟨by decide, by decide⟩ ?_
      first
        | (have hz : σ 2 c.toNat ≠ 0 := h26
           exact zRes.no (zQf.rf ho hR) (by rw [if_neg (fun q => q h8), if_pos hz]) (by decide))
        | (have hz : σ 2 c.toNat = 0 := h26
           exact zRes.ok (zQf.at hA ho hR) (by rw [if_neg (fun q => q h8), if_neg (fun q => q hz)]) (hA.2.2.2.1 c.toNat (by omega) hz).symm)
  · refine g_aload_n (i := 0) (by decide +kernel) rfl ?_
    refine g_iload_n (i := 3) (by decide +kernel) rfl ?_
    refine g_cVI (st := _) (c_Nc_refuse hn) k_Nc_refuse l_Nc_97 (by decide +kernel) (by omega) rfl rfl rfl rfl (Nat.le_of_ble_eq_true rfl) (by decide) ⟨by decide, by decide⟩ ?_
    rintro a9 σ9 ⟨ea9, hσ9⟩
    obtain rfl := ea9.symm
    subst hσ9
    refine g_retI (by decide +kernel) rfl (Or.inl rfl) ⟨by decide, by decide⟩ ?_
    exact zRes.no (zQf.rf ho hR) (if_pos h8) h8
theorem c_Nc_known {G : zG} {n : Nat} {σ : zSt} {c t : Int} (hn : 189 ≤ n) (ho : zOn σ) (hR : zRs (σ 93)) (z1 : zr c) (z2 : zr t) : Gm G y_Nc_known m_Nc_known 5 0 0 [vr G 0, vi c, vi t] n SH σ (zI n SH (fun a σ' => zRes σ σ' a (if zwa (σ 1 0) t c ≠ 0 then zwa (σ 1 0) t c else if zv (zSv σ 1) t 4 c.toNat = -1 then 8 else 0) (zv (zSv σ 1) t 4 c.toNat))) := by
  refine g_enter (L := [(0, _), (1, _), (2, _)]) (by decide) rfl rfl rfl (Nat.le_of_ble_eq_true rfl) (fun X => ?_)
  have hc := ho.1.1
  obtain ⟨z1a, z1b⟩ := id z1
  obtain ⟨z2a, z2b⟩ := id z2
  refine g_aload_n (i := 0) (by decide +kernel) rfl ?_
  refine g_iload_n (i := 1) (by decide +kernel) rfl ?_
  refine g_iload_n (i := 2) (by decide +kernel) rfl ?_
  refine g_cVI (st := _) (c_Nc_whyNotAt hn ho hR (by assumption) (by assumption)) k_Nc_whyNotAt l_Nc_252 (by decide +kernel) (by omega) rfl rfl rfl rfl (Nat.le_of_ble_eq_true rfl) (by decide) ⟨by decide, by decide⟩ ?_
  rintro a σ9 ⟨ea, hσ⟩
  obtain rfl := hσ.symm
  subst ea
  have zw := @zwa_r (σ 1 0) t c
  refine g_istore_n (i := 3) (L' := [(0, _), (1, _), (2, _), (3, _)]) (by decide +kernel) rfl rfl ?_
  refine g_iload_n (i := 3) (by decide +kernel) rfl ?_
  refine g_if_eq (off := 9) (tgt := 17) (by decide +kernel) (by decide) ⟨by omega, by omega⟩ (fun h8 => ?_) (fun h8 => ?_)
  · have h80 := zwa_0.mp h8
    refine g_aload_n (i := 0) (by decide +kernel) rfl ?_
    refine g_getr f_Nc_34 (by decide +kernel) (by omega) rfl rfl ?_
    refine g_iload_n (i := 2) (by decide +kernel) rfl ?_
    refine g_cVO (st := _) (c_Sg_at hn ho ⟨by omega, by omega⟩) k_Sg_at l_Nc_255 (by decide +kernel) (by omega) rfl rfl rfl rfl (Nat.le_of_ble_eq_true rfl) (by decide) ⟨by decide, by decide⟩ ?_
    rintro q τ1 ⟨eq, hA⟩
    subst eq
    have e4 : τ1 38 c.toNat = zv (zSv σ 1) t 4 c.toNat := hA.2.2.1 c.toNat (by omega) 4 (by decide) (by decide)
    have m4 : -1 ≤ τ1 38 c.toNat ∧ τ1 38 c.toNat ≤ 2000000000 := ((hA.on ho).mr.2 c.toNat (by omega)).2.2.2.1
    refine g_getr f_Nc_276 (by decide +kernel) (by omega) rfl rfl ?_
    refine g_iload_n (i := 1) (by decide +kernel) rfl ?_
    refine g_iald (j := c.toNat) (by decide +kernel) (by omega) rfl (by omega) (by omega) (by decide) ?_
    refine g_istore (i := 4) (L' := [(0, _), (1, _), (2, _), (3, _), (4, _)]) (by decide +kernel) rfl rfl ?_
    refine g_iload (i := 4) (by decide +kernel) rfl ?_
    refine g_iconst (a := -1) (by decide +kernel) ?_
    refine g_icmp_ne (off := 12) (tgt := 47) (by decide +kernel) (by decide) ⟨by omega, by omega⟩ ⟨by omega, by omega⟩ (fun h35 => ?_) (fun h35 => ?_)
    · refine g_aload_n (i := 0) (by decide +kernel) rfl ?_
      refine g_iload (i := 4) (by decide +kernel) rfl ?_
      refine g_cVI (st := _) (c_Nc_give hn) k_Nc_give l_Nc_208 (by decide +kernel) (by omega) rfl rfl rfl rfl (Nat.le_of_ble_eq_true rfl) (by decide) ⟨by decide, by decide⟩ ?_
      rintro a9 σ9 ⟨ea9, hσ9⟩
      obtain rfl := ea9.symm
      subst hσ9
      refine g_retI (by decide +kernel) rfl (Or.inl rfl) ⟨by decide, by decide⟩ ?_
      first
        | (have hz : τ1 38 c.toNat = -1 := h35
           exact zRes.no (zQf.at hA ho hR) (by rw [if_neg (fun q => q h8), if_pos (by rw [← e4]; exact hz)]) (by decide))
        | (have hz : ¬ τ1 38 c.toNat = -1 := h35
           exact zRes.ok (zQf.at hA ho hR) (by rw [if_neg (fun q => q h8), if_neg (by rw [← e4]; exact hz)]) e4.symm)
    · refine g_aload_n (i := 0) (by decide +kernel) rfl ?_
      refine g_bipush (a := 8) (by decide +kernel) (by decide) ?_
      refine g_cVI (st := _) (c_Nc_refuse hn) k_Nc_refuse l_Nc_97 (by decide +kernel) (by omega) rfl rfl rfl rfl (Nat.le_of_ble_eq_true rfl) (by decide) ⟨by decide, by decide⟩ ?_
      rintro a9 σ9 ⟨ea9, hσ9⟩
      obtain rfl := ea9.symm
      subst hσ9
      refine g_goto (off := 9) (tgt := 53) (by decide +kernel) (by decide) ?_
      refine g_retI (by decide +kernel) rfl (Or.inl rfl) ⟨by decide, by decide⟩ ?_
      first
        | (have hz : τ1 38 c.toNat = -1 := h35
           exact zRes.no (zQf.at hA ho hR) (by rw [if_neg (fun q => q h8), if_pos (by rw [← e4]; exact hz)]) (by decide))
        | (have hz : ¬ τ1 38 c.toNat = -1 := h35
           exact zRes.ok (zQf.at hA ho hR) (by rw [if_neg (fun q => q h8), if_neg (by rw [← e4]; exact hz)]) e4.symm)
  · refine g_aload_n (i := 0) (by decide +kernel) rfl ?_
    refine g_iload_n (i := 3) (by decide +kernel) rfl ?_
    refine g_cVI (st := _) (c_Nc_refuse hn) k_Nc_refuse l_Nc_97 (by decide +kernel) (by omega) rfl rfl rfl rfl (Nat.le_of_ble_eq_true rfl) (by decide) ⟨by decide, by decide⟩ ?_
    rintro a9 σ9 ⟨ea9, hσ9⟩
    obtain rfl := ea9.symm
    subst hσ9
    refine g_retI (by decide +kernel) rfl (Or.inl rfl) ⟨by decide, by decide⟩ ?_
    exact zRes.no (zQf.rf ho hR) (if_pos h8) h8
theorem c_Nc_dark {G : zG} {n : Nat} {σ : zSt} {t : Int} (hn : 189 ≤ n) (ho : zOn σ) (hR : zRs (σ 93)) (z1 : zr t) : Gm G y_Nc_dark m_Nc_dark 5 0 0 [vr G 0, vi t] n SH σ (zI n SH (fun a σ' => zRes σ σ' a (if 0 ≤ t ∧ t ≤ 1999 then 0 else 1) (zv (zSv σ 1) t 0 1))) := by
  refine g_enter (L := [(0, _), (1, _)]) (by decide) rfl rfl rfl (Nat.le_of_ble_eq_true rfl) (fun X => ?_)
  have hc := ho.1.1
  obtain ⟨z1a, z1b⟩ := id z1
  refine g_iload_n (i := 1) (by decide +kernel) rfl ?_
  refine g_cSI (st := _) (c_Nc_isTime (by assumption)) k_Nc_isTime l_Nc_187 (by decide +kernel) rfl rfl (Nat.le_of_ble_eq_true rfl) (by decide) ⟨by decide, by decide⟩ ?_
  rintro a σ9 ⟨ea, hσ⟩
  obtain rfl := hσ.symm
  subst ea
  refine g_if_eq (off := 21) (tgt := 25) (by decide +kernel) (by decide) zbr (fun h4 => ?_) (fun h4 => ?_)
  · have h4 := zb0.mp h4
    refine g_aload_n (i := 0) (by decide +kernel) rfl ?_
    refine g_iconst (a := 1) (by decide +kernel) ?_
    refine g_cVI (st := _) (c_Nc_refuse hn) k_Nc_refuse l_Nc_97 (by decide +kernel) (by omega) rfl rfl rfl rfl (Nat.le_of_ble_eq_true rfl) (by decide) ⟨by decide, by decide⟩ ?_
    rintro a9 σ9 ⟨ea9, hσ9⟩
    obtain rfl := ea9.symm
    subst hσ9
    refine g_retI (by decide +kernel) rfl (Or.inl rfl) ⟨by decide, by decide⟩ ?_
    first
      | (have hz : ¬ (0 ≤ t ∧ t ≤ 1999) := h4
         exact zRes.no (zQf.rf ho hR) (if_neg hz) (by decide))
      | exact zRes.ok (zQf.at hA ho hR) (if_pos h4) hA.2.2.2.2.symm
  · have h4 := zb1.mp h4
    refine g_aload_n (i := 0) (by decide +kernel) rfl ?_
    refine g_aload_n (i := 0) (by decide +kernel) rfl ?_
    refine g_getr f_Nc_34 (by decide +kernel) (by omega) rfl rfl ?_
    refine g_iload_n (i := 1) (by decide +kernel) rfl ?_
    refine g_cVO (st := _) (c_Sg_at hn ho ⟨by omega, by omega⟩) k_Sg_at l_Nc_255 (by decide +kernel) (by omega) rfl rfl rfl rfl (Nat.le_of_ble_eq_true rfl) (by decide) ⟨by decide, by decide⟩ ?_
    rintro q τ1 ⟨eq, hA⟩
    subst eq
    refine g_geti f_Nc_283 (by decide +kernel) (by omega) rfl rfl ?_
    refine g_cVI (st := _) (c_Nc_give hn) k_Nc_give l_Nc_208 (by decide +kernel) (by omega) rfl rfl rfl rfl (Nat.le_of_ble_eq_true rfl) (by decide) ⟨by decide, by decide⟩ ?_
    rintro a9 σ9 ⟨ea9, hσ9⟩
    obtain rfl := ea9.symm
    subst hσ9
    refine g_goto (off := 8) (tgt := 30) (by decide +kernel) (by decide) ?_
    refine g_retI (by decide +kernel) rfl (Or.inl rfl) ⟨by decide, by decide⟩ ?_
    first
      | (have hz : ¬ (0 ≤ t ∧ t ≤ 1999) := h4
         exact zRes.no (zQf.rf ho hR) (if_neg hz) (by decide))
      | exact zRes.ok (zQf.at hA ho hR) (if_pos h4) hA.2.2.2.2.symm
theorem ztp_in {sh sd : Nat → Int} : ∀ i, (∀ j, j < i → 0 ≤ sd j ∧ sd j ≤ 11) → -1 ≤ (ztp sh sd i).2 ∧ (ztp sh sd i).2 ≤ 11
  | 0, _ => ⟨Int.le_refl (-1), show (-1 : Int) ≤ 11 by decide⟩
  | i + 1, h => by
    have a := ztp_in (sh := sh) i (fun j hj => h j (by omega))
    have b := h i (by omega)
    rw [ztp_s]
    split
    · exact ⟨by show -1 ≤ sd i; omega, b.2⟩
    · exact a
theorem ztop_r {σ : zSt} {t a : Int} (ho : zOn σ) (h : ztopP (zSv σ 1) t a) : -1 ≤ a ∧ a ≤ 11 := by
  obtain ⟨sd, h1, h2⟩ := h
  rw [h2]
  refine ztp_in _ (fun j hj => ?_)
  have q := h1 j hj
  have q2 : (sd j).toNat < (σ 1 0).toNat := q.2.1
  have := ho.1.1
  omega
theorem c_Nc_top {G : zG} {n : Nat} {σ : zSt} {t : Int} (hn : 189 ≤ n) (ho : zOn σ) (hR : zRs (σ 93)) (z1 : zr t) : Gm G y_Nc_top m_Nc_top 6 0 0 [vr G 0, vi t] n SH σ (zI n SH (fun a σ' => zRes σ σ' a (if 0 ≤ t ∧ t ≤ 1999 then (if ztop (zSv σ 1) t = -1 then 8 else 0) else 1) (ztop (zSv σ 1) t))) := by
  refine g_enter (L := [(0, _), (1, _)]) (by decide) rfl rfl rfl (Nat.le_of_ble_eq_true rfl) (fun X => ?_)
  have hc := ho.1.1
  obtain ⟨z1a, z1b⟩ := id z1
  refine g_iload_n (i := 1) (by decide +kernel) rfl ?_
  refine g_cSI (st := _) (c_Nc_isTime (by assumption)) k_Nc_isTime l_Nc_187 (by decide +kernel) rfl rfl (Nat.le_of_ble_eq_true rfl) (by decide) ⟨by decide, by decide⟩ ?_
  rintro a σ9 ⟨ea, hσ⟩
  obtain rfl := hσ.symm
  subst ea
  refine g_if_ne (off := 9) (tgt := 13) (by decide +kernel) (by decide) zbr (fun h4 => ?_) (fun h4 => ?_)
  · have h4 := zb1.mp h4
    refine g_aload_n (i := 0) (by decide +kernel) rfl ?_
    refine g_getr f_Nc_34 (by decide +kernel) (by omega) rfl rfl ?_
    refine g_iload_n (i := 1) (by decide +kernel) rfl ?_
    refine g_cVI (st := _) (c_Sg_topAt hn ho ⟨by omega, by omega⟩) k_Sg_topAt l_Nc_286 (by decide +kernel) (by omega) rfl rfl rfl rfl (Nat.le_of_ble_eq_true rfl) (by decide) ⟨by decide, by decide⟩ ?_
    rintro a τ1 ⟨hA, hT⟩
    have rt : -1 ≤ a ∧ a ≤ 11 := ztop_r ho hT
    have et := ztop_eq hT
    refine g_istore_n (i := 2) (L' := [(0, _), (1, _), (2, _)]) (by decide +kernel) rfl rfl ?_
    refine g_iload_n (i := 2) (by decide +kernel) rfl ?_
    refine g_iconst (a := -1) (by decide +kernel) ?_
    refine g_icmp_ne (off := 12) (tgt := 36) (by decide +kernel) (by decide) ⟨by omega, by omega⟩ ⟨by omega, by omega⟩ (fun h24 => ?_) (fun h24 => ?_)
    · refine g_aload_n (i := 0) (by decide +kernel) rfl ?_
      refine g_iload_n (i := 2) (by decide +kernel) rfl ?_
      refine g_cVI (st := _) (c_Nc_give hn) k_Nc_give l_Nc_208 (by decide +kernel) (by omega) rfl rfl rfl rfl (Nat.le_of_ble_eq_true rfl) (by decide) ⟨by decide, by decide⟩ ?_
      rintro a9 σ9 ⟨ea9, hσ9⟩
      obtain rfl := ea9.symm
      subst hσ9
      refine g_retI (by decide +kernel) rfl (Or.inl rfl) ⟨by decide, by decide⟩ ?_
      first
        | (have hz : a = -1 := h24
           exact zRes.no (zQf.at hA ho hR) (by rw [if_pos h4, if_pos (by rw [← et]; exact hz)]) (by decide))
        | (have hz : ¬ a = -1 := h24
           exact zRes.ok (zQf.at hA ho hR) (by rw [if_pos h4, if_neg (by rw [← et]; exact hz)]) et.symm)
    · refine g_aload_n (i := 0) (by decide +kernel) rfl ?_
      refine g_bipush (a := 8) (by decide +kernel) (by decide) ?_
      refine g_cVI (st := _) (c_Nc_refuse hn) k_Nc_refuse l_Nc_97 (by decide +kernel) (by omega) rfl rfl rfl rfl (Nat.le_of_ble_eq_true rfl) (by decide) ⟨by decide, by decide⟩ ?_
      rintro a9 σ9 ⟨ea9, hσ9⟩
      obtain rfl := ea9.symm
      subst hσ9
      refine g_goto (off := 8) (tgt := 41) (by decide +kernel) (by decide) ?_
      refine g_retI (by decide +kernel) rfl (Or.inl rfl) ⟨by decide, by decide⟩ ?_
      first
        | (have hz : a = -1 := h24
           exact zRes.no (zQf.at hA ho hR) (by rw [if_pos h4, if_pos (by rw [← et]; exact hz)]) (by decide))
        | (have hz : ¬ a = -1 := h24
           exact zRes.ok (zQf.at hA ho hR) (by rw [if_pos h4, if_neg (by rw [← et]; exact hz)]) et.symm)
  · have h4 := zb0.mp h4
    refine g_aload_n (i := 0) (by decide +kernel) rfl ?_
    refine g_iconst (a := 1) (by decide +kernel) ?_
    refine g_cVI (st := _) (c_Nc_refuse hn) k_Nc_refuse l_Nc_97 (by decide +kernel) (by omega) rfl rfl rfl rfl (Nat.le_of_ble_eq_true rfl) (by decide) ⟨by decide, by decide⟩ ?_
    rintro a9 σ9 ⟨ea9, hσ9⟩
    obtain rfl := ea9.symm
    subst hσ9
    refine g_retI (by decide +kernel) rfl (Or.inl rfl) ⟨by decide, by decide⟩ ?_
    exact zRes.no (zQf.rf ho hR) (if_neg h4) (by decide)
theorem c_Nc_begin {G : zG} {n : Nat} {σ : zSt} {c : Int} (hn : 189 ≤ n) (ho : zOn σ) (hR : zRs (σ 93)) (z1 : zr c) : Gm G y_Nc_begin m_Nc_begin 1 0 0 [vr G 0, vi c] n SH σ (zI n SH (fun a σ' => zRes σ σ' a (if ¬ (0 ≤ c ∧ c < σ 1 0) then 2 else if zOk (zSv σ 1) c.toNat = true then 8 else 0) (zBe (zSv σ 1) (zsa (zSv σ 1)).2 c.toNat))) := by
  refine g_enter (L := [(0, _), (1, _)]) (by decide) rfl rfl rfl (Nat.le_of_ble_eq_true rfl) (fun X => ?_)
  have hc := ho.1.1
  obtain ⟨z1a, z1b⟩ := id z1
  refine g_aload_n (i := 0) (by decide +kernel) rfl ?_
  refine g_getr f_Nc_10 (by decide +kernel) (by omega) rfl rfl ?_
  refine g_iload_n (i := 1) (by decide +kernel) rfl ?_
  refine g_cVI (st := _) (c_Sh_has (b := 1) hn sh_1 (by assumption) ⟨hc.1, hc.2.1⟩) k_Sh_has l_Nc_117 (by decide +kernel) (by omega) rfl rfl rfl rfl (Nat.le_of_ble_eq_true rfl) (by decide) ⟨by decide, by decide⟩ ?_
  rintro a σ9 ⟨ea, hσ⟩
  obtain rfl := hσ.symm
  subst ea
  refine g_if_ne (off := 9) (tgt := 17) (by decide +kernel) (by decide) zbr (fun h8 => ?_) (fun h8 => ?_)
  · have h8 := zb1.mp h8
    have e26 := ho.opn (k := c.toNat) (by omega)
    have q26 := ho.2.2.1.2.2.1 c.toNat (by omega)
    refine g_aload_n (i := 0) (by decide +kernel) rfl ?_
    refine g_getr f_Nc_22 (by decide +kernel) (by omega) rfl rfl ?_
    refine g_getr f_Nc_236 (by decide +kernel) (by omega) rfl rfl ?_
    refine g_iload_n (i := 1) (by decide +kernel) rfl ?_
    refine g_zald (j := c.toNat) (by decide +kernel) (by omega) rfl (by omega) (by omega) (by decide) ?_
    refine g_if_eq (off := 12) (tgt := 38) (by decide +kernel) (by decide) ⟨by rw [e26]; split <;> decide, by rw [e26]; split <;> decide⟩ (fun h26 => ?_) (fun h26 => ?_)
    · refine g_aload_n (i := 0) (by decide +kernel) rfl ?_
      refine g_aload_n (i := 0) (by decide +kernel) rfl ?_
      refine g_getr f_Nc_22 (by decide +kernel) (by omega) rfl rfl ?_
      refine g_getr f_Nc_243 (by decide +kernel) (by omega) rfl rfl ?_
      refine g_iload_n (i := 1) (by decide +kernel) rfl ?_
      refine g_iald (j := c.toNat) (by decide +kernel) (by omega) rfl (by omega) (by omega) (by decide) ?_
      refine g_cVI (st := _) (c_Nc_give hn) k_Nc_give l_Nc_208 (by decide +kernel) (by omega) rfl rfl rfl rfl (Nat.le_of_ble_eq_true rfl) (by decide) ⟨by decide, by decide⟩ ?_
      rintro a9 σ9 ⟨ea9, hσ9⟩
      obtain rfl := ea9.symm
      subst hσ9
      refine g_retI (by decide +kernel) rfl (Or.inl rfl) ⟨by decide, by decide⟩ ?_
      first
        | (have hz : σ 26 c.toNat ≠ 0 := h26
           rw [e26] at hz
           exact zRes.no (zQf.rf ho hR) (by rw [if_neg (by omega), if_pos (zb1.mp hz)]) (by decide))
        | (have hz : σ 26 c.toNat = 0 := h26
           rw [e26] at hz
           exact zRes.ok (zQf.rf ho hR) (by rw [if_neg (by omega), if_neg (zb0.mp hz)]) (ho.be (by omega)).symm)
    · refine g_aload_n (i := 0) (by decide +kernel) rfl ?_
      refine g_bipush (a := 8) (by decide +kernel) (by decide) ?_
      refine g_cVI (st := _) (c_Nc_refuse hn) k_Nc_refuse l_Nc_97 (by decide +kernel) (by omega) rfl rfl rfl rfl (Nat.le_of_ble_eq_true rfl) (by decide) ⟨by decide, by decide⟩ ?_
      rintro a9 σ9 ⟨ea9, hσ9⟩
      obtain rfl := ea9.symm
      subst hσ9
      refine g_goto (off := 16) (tgt := 51) (by decide +kernel) (by decide) ?_
      refine g_retI (by decide +kernel) rfl (Or.inl rfl) ⟨by decide, by decide⟩ ?_
      first
        | (have hz : σ 26 c.toNat ≠ 0 := h26
           rw [e26] at hz
           exact zRes.no (zQf.rf ho hR) (by rw [if_neg (by omega), if_pos (zb1.mp hz)]) (by decide))
        | (have hz : σ 26 c.toNat = 0 := h26
           rw [e26] at hz
           exact zRes.ok (zQf.rf ho hR) (by rw [if_neg (by omega), if_neg (zb0.mp hz)]) (ho.be (by omega)).symm)
  · have h8 := zb0.mp h8
    refine g_aload_n (i := 0) (by decide +kernel) rfl ?_
    refine g_iconst (a := 2) (by decide +kernel) ?_
    refine g_cVI (st := _) (c_Nc_refuse hn) k_Nc_refuse l_Nc_97 (by decide +kernel) (by omega) rfl rfl rfl rfl (Nat.le_of_ble_eq_true rfl) (by decide) ⟨by decide, by decide⟩ ?_
    rintro a9 σ9 ⟨ea9, hσ9⟩
    obtain rfl := ea9.symm
    subst hσ9
    refine g_retI (by decide +kernel) rfl (Or.inl rfl) ⟨by decide, by decide⟩ ?_
    exact zRes.no (zQf.rf ho hR) (if_pos h8) (by decide)
theorem c_Nc_pressed {G : zG} {n : Nat} {σ : zSt} {c t : Int} (hn : 189 ≤ n) (ho : zOn σ) (hR : zRs (σ 93)) (z1 : zr c) (z2 : zr t) : Gm G y_Nc_pressed m_Nc_pressed 1 0 0 [vr G 0, vi c, vi t] n SH σ (zI n SH (fun a σ' => zRes σ σ' a (if c < 0 ∨ t < 0 ∨ 1 < t then 1 else if σ 1 8 ≤ c then 8 else 0) (if t = 0 then σ 9 c.toNat else σ 10 c.toNat))) := by
  refine g_enter (L := [(0, _), (1, _), (2, _)]) (by decide) rfl rfl rfl (Nat.le_of_ble_eq_true rfl) (fun X => ?_)
  have hc := ho.1.1
  obtain ⟨z1a, z1b⟩ := id z1
  obtain ⟨z2a, z2b⟩ := id z2
  refine g_iload_n (i := 1) (by decide +kernel) rfl ?_
  refine g_if_lt (off := 12) (tgt := 13) (by decide +kernel) (by decide) ⟨by omega, by omega⟩ (fun h1 => ?_) (fun h1 => ?_)
  · refine g_aload_n (i := 0) (by decide +kernel) rfl ?_
    refine g_iconst (a := 1) (by decide +kernel) ?_
    refine g_cVI (st := _) (c_Nc_refuse hn) k_Nc_refuse l_Nc_97 (by decide +kernel) (by omega) rfl rfl rfl rfl (Nat.le_of_ble_eq_true rfl) (by decide) ⟨by decide, by decide⟩ ?_
    rintro a9 σ9 ⟨ea9, hσ9⟩
    obtain rfl := ea9.symm
    subst hσ9
    refine g_retI (by decide +kernel) rfl (Or.inl rfl) ⟨by decide, by decide⟩ ?_
    exact zRes.no (zQf.rf ho hR) (if_pos (by omega)) (by decide)
  · refine g_iload_n (i := 2) (by decide +kernel) rfl ?_
    refine g_if_lt (off := 8) (tgt := 13) (by decide +kernel) (by decide) ⟨by omega, by omega⟩ (fun h5 => ?_) (fun h5 => ?_)
    · refine g_aload_n (i := 0) (by decide +kernel) rfl ?_
      refine g_iconst (a := 1) (by decide +kernel) ?_
      refine g_cVI (st := _) (c_Nc_refuse hn) k_Nc_refuse l_Nc_97 (by decide +kernel) (by omega) rfl rfl rfl rfl (Nat.le_of_ble_eq_true rfl) (by decide) ⟨by decide, by decide⟩ ?_
      rintro a9 σ9 ⟨ea9, hσ9⟩
      obtain rfl := ea9.symm
      subst hσ9
      refine g_retI (by decide +kernel) rfl (Or.inl rfl) ⟨by decide, by decide⟩ ?_
      exact zRes.no (zQf.rf ho hR) (if_pos (by omega)) (by decide)
    · refine g_iload_n (i := 2) (by decide +kernel) rfl ?_
      refine g_iconst (a := 1) (by decide +kernel) ?_
      refine g_icmp_le (off := 9) (tgt := 19) (by decide +kernel) (by decide) ⟨by omega, by omega⟩ ⟨by omega, by omega⟩ (fun h10 => ?_) (fun h10 => ?_)
      · refine g_iload_n (i := 1) (by decide +kernel) rfl ?_
        refine g_aload_n (i := 0) (by decide +kernel) rfl ?_
        refine g_getr f_Nc_10 (by decide +kernel) (by omega) rfl rfl ?_
        refine g_geti f_Nc_190 (by decide +kernel) (by omega) rfl rfl ?_
        refine g_icmp_lt (off := 10) (tgt := 37) (by decide +kernel) (by decide) ⟨by omega, by omega⟩ ⟨by omega, by omega⟩ (fun h27 => ?_) (fun h27 => ?_)
        · refine g_aload_n (i := 0) (by decide +kernel) rfl ?_
          refine g_iload_n (i := 2) (by decide +kernel) rfl ?_
          refine g_if_ne (off := 15) (tgt := 54) (by decide +kernel) (by decide) ⟨by omega, by omega⟩ (fun h39 => ?_) (fun h39 => ?_)
          · refine g_aload_n (i := 0) (by decide +kernel) rfl ?_
            refine g_getr f_Nc_10 (by decide +kernel) (by omega) rfl rfl ?_
            refine g_getr f_Nc_249 (by decide +kernel) (by omega) rfl rfl ?_
            refine g_iload_n (i := 1) (by decide +kernel) rfl ?_
            refine g_iald (j := c.toNat) (by decide +kernel) (by omega) rfl (by omega) (by omega) (by decide) ?_
            refine g_cVI (st := _) (c_Nc_give hn) k_Nc_give l_Nc_208 (by decide +kernel) (by omega) rfl rfl rfl rfl (Nat.le_of_ble_eq_true rfl) (by decide) ⟨by decide, by decide⟩ ?_
            rintro a9 σ9 ⟨ea9, hσ9⟩
            obtain rfl := ea9.symm
            subst hσ9
            refine g_retI (by decide +kernel) rfl (Or.inl rfl) ⟨by decide, by decide⟩ ?_
            first
              | (have hz : t = 0 := h39
                 exact zRes.ok (zQf.rf ho hR) (by rw [if_neg (by omega), if_neg (by omega)]) (if_pos hz))
              | exact zRes.ok (zQf.rf ho hR) (by rw [if_neg (by omega), if_neg (by omega)]) (if_neg h39)
          · refine g_aload_n (i := 0) (by decide +kernel) rfl ?_
            refine g_getr f_Nc_10 (by decide +kernel) (by omega) rfl rfl ?_
            refine g_getr f_Nc_246 (by decide +kernel) (by omega) rfl rfl ?_
            refine g_iload_n (i := 1) (by decide +kernel) rfl ?_
            refine g_iald (j := c.toNat) (by decide +kernel) (by omega) rfl (by omega) (by omega) (by decide) ?_
            refine g_goto (off := 12) (tgt := 63) (by decide +kernel) (by decide) ?_
            refine g_cVI (st := _) (c_Nc_give hn) k_Nc_give l_Nc_208 (by decide +kernel) (by omega) rfl rfl rfl rfl (Nat.le_of_ble_eq_true rfl) (by decide) ⟨by decide, by decide⟩ ?_
            rintro a9 σ9 ⟨ea9, hσ9⟩
            obtain rfl := ea9.symm
            subst hσ9
            refine g_retI (by decide +kernel) rfl (Or.inl rfl) ⟨by decide, by decide⟩ ?_
            first
              | (have hz : t = 0 := h39
                 exact zRes.ok (zQf.rf ho hR) (by rw [if_neg (by omega), if_neg (by omega)]) (if_pos hz))
              | exact zRes.ok (zQf.rf ho hR) (by rw [if_neg (by omega), if_neg (by omega)]) (if_neg h39)
        · refine g_aload_n (i := 0) (by decide +kernel) rfl ?_
          refine g_bipush (a := 8) (by decide +kernel) (by decide) ?_
          refine g_cVI (st := _) (c_Nc_refuse hn) k_Nc_refuse l_Nc_97 (by decide +kernel) (by omega) rfl rfl rfl rfl (Nat.le_of_ble_eq_true rfl) (by decide) ⟨by decide, by decide⟩ ?_
          rintro a9 σ9 ⟨ea9, hσ9⟩
          obtain rfl := ea9.symm
          subst hσ9
          refine g_retI (by decide +kernel) rfl (Or.inl rfl) ⟨by decide, by decide⟩ ?_
          exact zRes.no (zQf.rf ho hR) (by rw [if_neg (by omega), if_pos (by omega)]) (by decide)
      · refine g_aload_n (i := 0) (by decide +kernel) rfl ?_
        refine g_iconst (a := 1) (by decide +kernel) ?_
        refine g_cVI (st := _) (c_Nc_refuse hn) k_Nc_refuse l_Nc_97 (by decide +kernel) (by omega) rfl rfl rfl rfl (Nat.le_of_ble_eq_true rfl) (by decide) ⟨by decide, by decide⟩ ?_
        rintro a9 σ9 ⟨ea9, hσ9⟩
        obtain rfl := ea9.symm
        subst hσ9
        refine g_retI (by decide +kernel) rfl (Or.inl rfl) ⟨by decide, by decide⟩ ?_
        exact zRes.no (zQf.rf ho hR) (if_pos (by omega)) (by decide)
theorem c_Nc_within {G : zG} {n : Nat} {σ : zSt} {c t : Int} (hn : 189 ≤ n) (ho : zOn σ) (hR : zRs (σ 93)) (z1 : zr c) (z2 : zr t) : Gm G y_Nc_within m_Nc_within 1 0 0 [vr G 0, vi c, vi t] n SH σ (zI n SH (fun a σ' => zRes σ σ' a (if t < 0 then 1 else if ¬ (0 ≤ c ∧ c < σ 1 0) then 2 else if zch (zSv σ 1) c t = -1 then 8 else 0) (zch (zSv σ 1) c t))) := by
  refine g_enter (L := [(0, _), (1, _), (2, _)]) (by decide) rfl rfl rfl (Nat.le_of_ble_eq_true rfl) (fun X => ?_)
  have hc := ho.1.1
  obtain ⟨z1a, z1b⟩ := id z1
  obtain ⟨z2a, z2b⟩ := id z2
  refine g_iload_n (i := 2) (by decide +kernel) rfl ?_
  refine g_if_ge (off := 9) (tgt := 10) (by decide +kernel) (by decide) ⟨by omega, by omega⟩ (fun h1 => ?_) (fun h1 => ?_)
  · refine g_aload_n (i := 0) (by decide +kernel) rfl ?_
    refine g_getr f_Nc_10 (by decide +kernel) (by omega) rfl rfl ?_
    refine g_iload_n (i := 1) (by decide +kernel) rfl ?_
    refine g_cVI (st := _) (c_Sh_has (b := 1) hn sh_1 (by assumption) ⟨hc.1, hc.2.1⟩) k_Sh_has l_Nc_117 (by decide +kernel) (by omega) rfl rfl rfl rfl (Nat.le_of_ble_eq_true rfl) (by decide) ⟨by decide, by decide⟩ ?_
    rintro a σ9 ⟨ea, hσ⟩
    obtain rfl := hσ.symm
    subst ea
    refine g_if_ne (off := 9) (tgt := 27) (by decide +kernel) (by decide) zbr (fun h18 => ?_) (fun h18 => ?_)
    · have h18 := zb1.mp h18
      refine g_aload_n (i := 0) (by decide +kernel) rfl ?_
      refine g_getr f_Nc_10 (by decide +kernel) (by omega) rfl rfl ?_
      refine g_iload_n (i := 1) (by decide +kernel) rfl ?_
      refine g_iload_n (i := 2) (by decide +kernel) rfl ?_
      refine g_cVI (st := _) (c_Sh_childAt (b := 1) hn sh_1 ho.1 z1 z2) k_Sh_childAt l_Nc_240 (by decide +kernel) (by omega) rfl rfl rfl rfl (Nat.le_of_ble_eq_true rfl) (by decide) ⟨by decide, by decide⟩ ?_
      rintro a σ9 ⟨ea, hσ⟩
      obtain rfl := hσ.symm
      have ea : a = zch (zSv σ 1) c t := ea
      have ra : -1 ≤ a ∧ a ≤ 11 := by
        rw [ea]
        rcases zch_lt (zSv σ 1) c t with q | ⟨i, q, qi, -⟩
        · omega
        · have qi : i < (σ 1 0).toNat := qi
          omega
      refine g_istore_n (i := 3) (L' := [(0, _), (1, _), (2, _), (3, _)]) (by decide +kernel) rfl rfl ?_
      refine g_iload_n (i := 3) (by decide +kernel) rfl ?_
      refine g_iconst (a := -1) (by decide +kernel) ?_
      refine g_icmp_ne (off := 12) (tgt := 51) (by decide +kernel) (by decide) ⟨by omega, by omega⟩ ⟨by omega, by omega⟩ (fun h39 => ?_) (fun h39 => ?_)
      · refine g_aload_n (i := 0) (by decide +kernel) rfl ?_
        refine g_iload_n (i := 3) (by decide +kernel) rfl ?_
        refine g_cVI (st := _) (c_Nc_give hn) k_Nc_give l_Nc_208 (by decide +kernel) (by omega) rfl rfl rfl rfl (Nat.le_of_ble_eq_true rfl) (by decide) ⟨by decide, by decide⟩ ?_
        rintro a9 σ9 ⟨ea9, hσ9⟩
        obtain rfl := ea9.symm
        subst hσ9
        refine g_retI (by decide +kernel) rfl (Or.inl rfl) ⟨by decide, by decide⟩ ?_
        first
          | (have hz : a = -1 := h39
             exact zRes.no (zQf.rf ho hR) (by rw [if_neg (by omega), if_neg (by omega), if_pos (by rw [← ea]; exact hz)]) (by decide))
          | (have hz : ¬ a = -1 := h39
             exact zRes.ok (zQf.rf ho hR) (by rw [if_neg (by omega), if_neg (by omega), if_neg (by rw [← ea]; exact hz)]) ea.symm)
      · refine g_aload_n (i := 0) (by decide +kernel) rfl ?_
        refine g_bipush (a := 8) (by decide +kernel) (by decide) ?_
        refine g_cVI (st := _) (c_Nc_refuse hn) k_Nc_refuse l_Nc_97 (by decide +kernel) (by omega) rfl rfl rfl rfl (Nat.le_of_ble_eq_true rfl) (by decide) ⟨by decide, by decide⟩ ?_
        rintro a9 σ9 ⟨ea9, hσ9⟩
        obtain rfl := ea9.symm
        subst hσ9
        refine g_goto (off := 8) (tgt := 56) (by decide +kernel) (by decide) ?_
        refine g_retI (by decide +kernel) rfl (Or.inl rfl) ⟨by decide, by decide⟩ ?_
        first
          | (have hz : a = -1 := h39
             exact zRes.no (zQf.rf ho hR) (by rw [if_neg (by omega), if_neg (by omega), if_pos (by rw [← ea]; exact hz)]) (by decide))
          | (have hz : ¬ a = -1 := h39
             exact zRes.ok (zQf.rf ho hR) (by rw [if_neg (by omega), if_neg (by omega), if_neg (by rw [← ea]; exact hz)]) ea.symm)
    · have h18 := zb0.mp h18
      refine g_aload_n (i := 0) (by decide +kernel) rfl ?_
      refine g_iconst (a := 2) (by decide +kernel) ?_
      refine g_cVI (st := _) (c_Nc_refuse hn) k_Nc_refuse l_Nc_97 (by decide +kernel) (by omega) rfl rfl rfl rfl (Nat.le_of_ble_eq_true rfl) (by decide) ⟨by decide, by decide⟩ ?_
      rintro a9 σ9 ⟨ea9, hσ9⟩
      obtain rfl := ea9.symm
      subst hσ9
      refine g_retI (by decide +kernel) rfl (Or.inl rfl) ⟨by decide, by decide⟩ ?_
      exact zRes.no (zQf.rf ho hR) (by rw [if_neg (by omega), if_pos h18]) (by decide)
  · refine g_aload_n (i := 0) (by decide +kernel) rfl ?_
    refine g_iconst (a := 1) (by decide +kernel) ?_
    refine g_cVI (st := _) (c_Nc_refuse hn) k_Nc_refuse l_Nc_97 (by decide +kernel) (by omega) rfl rfl rfl rfl (Nat.le_of_ble_eq_true rfl) (by decide) ⟨by decide, by decide⟩ ?_
    rintro a9 σ9 ⟨ea9, hσ9⟩
    obtain rfl := ea9.symm
    subst hσ9
    refine g_retI (by decide +kernel) rfl (Or.inl rfl) ⟨by decide, by decide⟩ ?_
    exact zRes.no (zQf.rf ho hR) (if_pos h1) (by decide)
theorem zbits_cg {p q : Nat → Bool} : ∀ {n : Nat}, (∀ k, k < n → p k = q k) → zbits p n = zbits q n
  | 0, _ => rfl
  | n + 1, h => by
    unfold zbits
    rw [zbits_cg (fun k hk => h k (by omega)), h n (by omega)]
/-- the clips in state x at t -/
noncomputable def zset (S : zSt) (t x : Int) : Nat := zbits (fun j => decide (zv S t 1 j = x)) (zN S)
theorem zset_eq {σ τ : zSt} {t x : Int} {N : Nat} (hA : zAtP σ τ t) (eN : (σ 1 0).toNat = N) : (zset (zSv σ 1) t x : Int) = (zbits (fun j => decide (τ 35 j = x)) N : Int) := by
  unfold zset
  rw [show zN (zSv σ 1) = N from eN]
  congr 1
  exact zbits_cg (fun k hk => by rw [show τ 35 k = zv (zSv σ 1) t 1 k from hA.2.2.1 k (by omega) 1 (by decide) (by decide)])
theorem c_Nc_playing {G : zG} {n : Nat} {σ : zSt} {t f : Int} (hn : 189 ≤ n) (ho : zOn σ) (hR : zRs (σ 93)) (z1 : zr t) (hf : f = 0 ∨ f = 1) : Gm G y_Nc_playing m_Nc_playing 5 0 0 [vr G 0, vi t, vi f] n SH σ (zI n SH (fun a σ' => zRes σ σ' a (if 0 ≤ t ∧ t ≤ 1999 then 0 else 1) (if f = 0 then (zset (zSv σ 1) t 2 : Int) else (zset (zSv σ 1) t 3 : Int)))) := by
  refine g_enter (L := [(0, _), (1, _), (2, _)]) (by decide) rfl rfl rfl (Nat.le_of_ble_eq_true rfl) (fun X => ?_)
  have hc := ho.1.1
  obtain ⟨z1a, z1b⟩ := id z1
  obtain ⟨N, eN⟩ := Int.eq_ofNat_of_zero_le hc.1
  refine g_iload_n (i := 1) (by decide +kernel) rfl ?_
  refine g_cSI (st := _) (c_Nc_isTime (by assumption)) k_Nc_isTime l_Nc_187 (by decide +kernel) rfl rfl (Nat.le_of_ble_eq_true rfl) (by decide) ⟨by decide, by decide⟩ ?_
  rintro a σ9 ⟨ea, hσ⟩
  obtain rfl := hσ.symm
  subst ea
  refine g_if_ne (off := 9) (tgt := 13) (by decide +kernel) (by decide) zbr (fun h4 => ?_) (fun h4 => ?_)
  · have h4 := zb1.mp h4
    refine g_aload_n (i := 0) (by decide +kernel) rfl ?_
    refine g_aload_n (i := 0) (by decide +kernel) rfl ?_
    refine g_getr f_Nc_34 (by decide +kernel) (by omega) rfl rfl ?_
    refine g_iload_n (i := 1) (by decide +kernel) rfl ?_
    refine g_cVO (st := _) (c_Sg_at hn ho ⟨by omega, by omega⟩) k_Sg_at l_Nc_255 (by decide +kernel) (by omega) rfl rfl rfl rfl (Nat.le_of_ble_eq_true rfl) (by decide) ⟨by decide, by decide⟩ ?_
    rintro q τ1 ⟨eq, hA⟩
    subst eq
    refine g_iload_n (i := 2) (by decide +kernel) rfl ?_
    refine g_if_eq (off := 7) (tgt := 30) (by decide +kernel) (by decide) ⟨by omega, by omega⟩ (fun h23 => ?_) (fun h23 => ?_)
    · refine g_iconst (a := 2) (by decide +kernel) ?_
      refine g_aload_n (i := 0) (by decide +kernel) rfl ?_
      refine g_getr f_Nc_10 (by decide +kernel) (by omega) rfl rfl ?_
      refine g_geti f_Nc_111 (by decide +kernel) (by omega) rfl rfl ?_
      have eT : τ1 1 0 = (N : Int) := by rw [hA.1 1 (by decide)]; exact eN
      rw [eT]
      refine g_cVI (st := _) (c_Mo_bitsOf (b := 34) (N := N) hn mo_34 (fun k hk => ((hA.on ho).mr.2 k hk).1) (by omega) ⟨by decide, by decide⟩) k_Mo_bitsOf l_Nc_273 (by decide +kernel) (by omega) rfl rfl rfl rfl (Nat.le_of_ble_eq_true rfl) (by decide) ⟨by decide, by decide⟩ ?_
      rintro a σ9 ⟨ea, hσ⟩
      obtain rfl := hσ.symm
      have ea : a = (zset (zSv σ 1) t 2 : Int) := by rw [ea]; exact (zset_eq hA (by omega)).symm
      refine g_cVI (st := _) (c_Nc_give hn) k_Nc_give l_Nc_208 (by decide +kernel) (by omega) rfl rfl rfl rfl (Nat.le_of_ble_eq_true rfl) (by decide) ⟨by decide, by decide⟩ ?_
      rintro a9 σ9 ⟨ea9, hσ9⟩
      obtain rfl := ea9.symm
      subst hσ9
      refine g_retI (by decide +kernel) rfl (Or.inl rfl) ⟨by decide, by decide⟩ ?_
      first
        | (have hz : f = 0 := h23
           exact zRes.ok (zQf.at hA ho hR) (if_pos h4) (by rw [if_pos hz]; exact ea.symm))
        | exact zRes.ok (zQf.at hA ho hR) (if_pos h4) (by rw [if_neg h23]; exact ea.symm)
    · refine g_iconst (a := 3) (by decide +kernel) ?_
      refine g_goto (off := 4) (tgt := 31) (by decide +kernel) (by decide) ?_
      refine g_aload_n (i := 0) (by decide +kernel) rfl ?_
      refine g_getr f_Nc_10 (by decide +kernel) (by omega) rfl rfl ?_
      refine g_geti f_Nc_111 (by decide +kernel) (by omega) rfl rfl ?_
      have eT : τ1 1 0 = (N : Int) := by rw [hA.1 1 (by decide)]; exact eN
      rw [eT]
      refine g_cVI (st := _) (c_Mo_bitsOf (b := 34) (N := N) hn mo_34 (fun k hk => ((hA.on ho).mr.2 k hk).1) (by omega) ⟨by decide, by decide⟩) k_Mo_bitsOf l_Nc_273 (by decide +kernel) (by omega) rfl rfl rfl rfl (Nat.le_of_ble_eq_true rfl) (by decide) ⟨by decide, by decide⟩ ?_
      rintro a σ9 ⟨ea, hσ⟩
      obtain rfl := hσ.symm
      have ea : a = (zset (zSv σ 1) t 3 : Int) := by rw [ea]; exact (zset_eq hA (by omega)).symm
      refine g_cVI (st := _) (c_Nc_give hn) k_Nc_give l_Nc_208 (by decide +kernel) (by omega) rfl rfl rfl rfl (Nat.le_of_ble_eq_true rfl) (by decide) ⟨by decide, by decide⟩ ?_
      rintro a9 σ9 ⟨ea9, hσ9⟩
      obtain rfl := ea9.symm
      subst hσ9
      refine g_retI (by decide +kernel) rfl (Or.inl rfl) ⟨by decide, by decide⟩ ?_
      first
        | (have hz : f = 0 := h23
           exact zRes.ok (zQf.at hA ho hR) (if_pos h4) (by rw [if_pos hz]; exact ea.symm))
        | exact zRes.ok (zQf.at hA ho hR) (if_pos h4) (by rw [if_neg h23]; exact ea.symm)
  · have h4 := zb0.mp h4
    refine g_aload_n (i := 0) (by decide +kernel) rfl ?_
    refine g_iconst (a := 1) (by decide +kernel) ?_
    refine g_cVI (st := _) (c_Nc_refuse hn) k_Nc_refuse l_Nc_97 (by decide +kernel) (by omega) rfl rfl rfl rfl (Nat.le_of_ble_eq_true rfl) (by decide) ⟨by decide, by decide⟩ ?_
    rintro a9 σ9 ⟨ea9, hσ9⟩
    obtain rfl := ea9.symm
    subst hσ9
    refine g_retI (by decide +kernel) rfl (Or.inl rfl) ⟨by decide, by decide⟩ ?_
    exact zRes.no (zQf.rf ho hR) (if_neg h4) (by decide)
theorem c_Nc_pieces {G : zG} {n : Nat} {σ : zSt} {c : Int} (hn : 189 ≤ n) (ho : zOn σ) (hR : zRs (σ 93)) (z1 : zr c) : Gm G y_Nc_pieces m_Nc_pieces 7 0 0 [vr G 0, vi c] n SH σ (zI n SH (fun a σ' => zRes σ σ' a (if 0 ≤ c ∧ c < σ 1 0 then 0 else 2) (zMa (zplay (zSv σ 1) c.toNat) 1 (σ 93) 2000).1)) := by
  refine g_enter (L := [(0, _), (1, _)]) (by decide) rfl rfl rfl (Nat.le_of_ble_eq_true rfl) (fun X => ?_)
  have hc := ho.1.1
  obtain ⟨z1a, z1b⟩ := id z1
  refine g_aload_n (i := 0) (by decide +kernel) rfl ?_
  refine g_getr f_Nc_10 (by decide +kernel) (by omega) rfl rfl ?_
  refine g_iload_n (i := 1) (by decide +kernel) rfl ?_
  refine g_cVI (st := _) (c_Sh_has (b := 1) hn sh_1 (by assumption) ⟨hc.1, hc.2.1⟩) k_Sh_has l_Nc_117 (by decide +kernel) (by omega) rfl rfl rfl rfl (Nat.le_of_ble_eq_true rfl) (by decide) ⟨by decide, by decide⟩ ?_
  rintro a σ9 ⟨ea, hσ⟩
  obtain rfl := hσ.symm
  subst ea
  refine g_if_eq (off := 18) (tgt := 26) (by decide +kernel) (by decide) zbr (fun h8 => ?_) (fun h8 => ?_)
  · have h8 := zb0.mp h8
    refine g_aload_n (i := 0) (by decide +kernel) rfl ?_
    refine g_iconst (a := 2) (by decide +kernel) ?_
    refine g_cVI (st := _) (c_Nc_refuse hn) k_Nc_refuse l_Nc_97 (by decide +kernel) (by omega) rfl rfl rfl rfl (Nat.le_of_ble_eq_true rfl) (by decide) ⟨by decide, by decide⟩ ?_
    rintro a9 σ9 ⟨ea9, hσ9⟩
    obtain rfl := ea9.symm
    subst hσ9
    refine g_retI (by decide +kernel) rfl (Or.inl rfl) ⟨by decide, by decide⟩ ?_
    first
      | (have hz : ¬ (0 ≤ c ∧ c < σ 1 0) := h8
         exact zRes.no (zQf.rf ho hR) (if_neg hz) (by decide))
      | exact zRes.ok (zQf.fr hF hR1) (if_pos h8) (by rw [Int.toNat_natCast]; exact ea.symm)
  · have h8 := zb1.mp h8
    refine g_aload_n (i := 0) (by decide +kernel) rfl ?_
    refine g_aload_n (i := 0) (by decide +kernel) rfl ?_
    refine g_getr f_Nc_43 (by decide +kernel) (by omega) rfl rfl ?_
    refine g_iload_n (i := 1) (by decide +kernel) rfl ?_
    obtain ⟨k, rfl⟩ := Int.eq_ofNat_of_zero_le h8.1
    refine g_cVI (st := _) (c_Sr_countPieces (k := k) hn ho (by omega) hR) k_Sr_countPieces l_Nc_298 (by decide +kernel) (by omega) rfl rfl rfl rfl (Nat.le_of_ble_eq_true rfl) (by decide) ⟨by decide, by decide⟩ ?_
    rintro a τ1 ⟨hF, hR1, ea⟩
    refine g_cVI (st := _) (c_Nc_give hn) k_Nc_give l_Nc_208 (by decide +kernel) (by omega) rfl rfl rfl rfl (Nat.le_of_ble_eq_true rfl) (by decide) ⟨by decide, by decide⟩ ?_
    rintro a9 σ9 ⟨ea9, hσ9⟩
    obtain rfl := ea9.symm
    subst hσ9
    refine g_goto (off := 8) (tgt := 31) (by decide +kernel) (by decide) ?_
    refine g_retI (by decide +kernel) rfl (Or.inl rfl) ⟨by decide, by decide⟩ ?_
    first
      | (have hz : ¬ (0 ≤ c ∧ c < σ 1 0) := h8
         exact zRes.no (zQf.rf ho hR) (if_neg hz) (by decide))
      | exact zRes.ok (zQf.fr hF hR1) (if_pos h8) (by rw [Int.toNat_natCast]; exact ea.symm)
theorem c_Nc_spans {G : zG} {n : Nat} {σ : zSt} {c : Int} (hn : 189 ≤ n) (ho : zOn σ) (hR : zRs (σ 93)) (z1 : zr c) : Gm G y_Nc_spans m_Nc_spans 7 0 0 [vr G 0, vi c] n SH σ (zI n SH (fun a σ' => zRes σ σ' a (if 0 ≤ c ∧ c < σ 1 0 then 0 else 2) (zMa (zplay (zSv σ 1) c.toNat) 0 (σ 93) 2000).1)) := by
  refine g_enter (L := [(0, _), (1, _)]) (by decide) rfl rfl rfl (Nat.le_of_ble_eq_true rfl) (fun X => ?_)
  have hc := ho.1.1
  obtain ⟨z1a, z1b⟩ := id z1
  refine g_aload_n (i := 0) (by decide +kernel) rfl ?_
  refine g_getr f_Nc_10 (by decide +kernel) (by omega) rfl rfl ?_
  refine g_iload_n (i := 1) (by decide +kernel) rfl ?_
  refine g_cVI (st := _) (c_Sh_has (b := 1) hn sh_1 (by assumption) ⟨hc.1, hc.2.1⟩) k_Sh_has l_Nc_117 (by decide +kernel) (by omega) rfl rfl rfl rfl (Nat.le_of_ble_eq_true rfl) (by decide) ⟨by decide, by decide⟩ ?_
  rintro a σ9 ⟨ea, hσ⟩
  obtain rfl := hσ.symm
  subst ea
  refine g_if_eq (off := 18) (tgt := 26) (by decide +kernel) (by decide) zbr (fun h8 => ?_) (fun h8 => ?_)
  · have h8 := zb0.mp h8
    refine g_aload_n (i := 0) (by decide +kernel) rfl ?_
    refine g_iconst (a := 2) (by decide +kernel) ?_
    refine g_cVI (st := _) (c_Nc_refuse hn) k_Nc_refuse l_Nc_97 (by decide +kernel) (by omega) rfl rfl rfl rfl (Nat.le_of_ble_eq_true rfl) (by decide) ⟨by decide, by decide⟩ ?_
    rintro a9 σ9 ⟨ea9, hσ9⟩
    obtain rfl := ea9.symm
    subst hσ9
    refine g_retI (by decide +kernel) rfl (Or.inl rfl) ⟨by decide, by decide⟩ ?_
    first
      | (have hz : ¬ (0 ≤ c ∧ c < σ 1 0) := h8
         exact zRes.no (zQf.rf ho hR) (if_neg hz) (by decide))
      | exact zRes.ok (zQf.fr hF hR1) (if_pos h8) (by rw [Int.toNat_natCast]; exact ea.symm)
  · have h8 := zb1.mp h8
    refine g_aload_n (i := 0) (by decide +kernel) rfl ?_
    refine g_aload_n (i := 0) (by decide +kernel) rfl ?_
    refine g_getr f_Nc_43 (by decide +kernel) (by omega) rfl rfl ?_
    refine g_iload_n (i := 1) (by decide +kernel) rfl ?_
    obtain ⟨k, rfl⟩ := Int.eq_ofNat_of_zero_le h8.1
    refine g_cVI (st := _) (c_Sr_countSpans (k := k) hn ho (by omega) hR) k_Sr_countSpans l_Nc_318 (by decide +kernel) (by omega) rfl rfl rfl rfl (Nat.le_of_ble_eq_true rfl) (by decide) ⟨by decide, by decide⟩ ?_
    rintro a τ1 ⟨hF, hR1, ea⟩
    refine g_cVI (st := _) (c_Nc_give hn) k_Nc_give l_Nc_208 (by decide +kernel) (by omega) rfl rfl rfl rfl (Nat.le_of_ble_eq_true rfl) (by decide) ⟨by decide, by decide⟩ ?_
    rintro a9 σ9 ⟨ea9, hσ9⟩
    obtain rfl := ea9.symm
    subst hσ9
    refine g_goto (off := 8) (tgt := 31) (by decide +kernel) (by decide) ?_
    refine g_retI (by decide +kernel) rfl (Or.inl rfl) ⟨by decide, by decide⟩ ?_
    first
      | (have hz : ¬ (0 ≤ c ∧ c < σ 1 0) := h8
         exact zRes.no (zQf.rf ho hR) (if_neg hz) (by decide))
      | exact zRes.ok (zQf.fr hF hR1) (if_pos h8) (by rw [Int.toNat_natCast]; exact ea.symm)
theorem c_Nc_frames {G : zG} {n : Nat} {σ : zSt} {c : Int} (hn : 189 ≤ n) (ho : zOn σ) (hR : zRs (σ 93)) (z1 : zr c) : Gm G y_Nc_frames m_Nc_frames 6 0 0 [vr G 0, vi c] n SH σ (zI n SH (fun a σ' => zRes σ σ' a (if 0 ≤ c ∧ c < σ 1 0 then 0 else 2) (zunp (zplay (zSv σ 1) c.toNat) 0 1999 : Int))) := by
  refine g_enter (L := [(0, _), (1, _)]) (by decide) rfl rfl rfl (Nat.le_of_ble_eq_true rfl) (fun X => ?_)
  have hc := ho.1.1
  obtain ⟨z1a, z1b⟩ := id z1
  refine g_aload_n (i := 0) (by decide +kernel) rfl ?_
  refine g_getr f_Nc_10 (by decide +kernel) (by omega) rfl rfl ?_
  refine g_iload_n (i := 1) (by decide +kernel) rfl ?_
  refine g_cVI (st := _) (c_Sh_has (b := 1) hn sh_1 (by assumption) ⟨hc.1, hc.2.1⟩) k_Sh_has l_Nc_117 (by decide +kernel) (by omega) rfl rfl rfl rfl (Nat.le_of_ble_eq_true rfl) (by decide) ⟨by decide, by decide⟩ ?_
  rintro a σ9 ⟨ea, hσ⟩
  obtain rfl := hσ.symm
  subst ea
  refine g_if_eq (off := 22) (tgt := 30) (by decide +kernel) (by decide) zbr (fun h8 => ?_) (fun h8 => ?_)
  · have h8 := zb0.mp h8
    refine g_aload_n (i := 0) (by decide +kernel) rfl ?_
    refine g_iconst (a := 2) (by decide +kernel) ?_
    refine g_cVI (st := _) (c_Nc_refuse hn) k_Nc_refuse l_Nc_97 (by decide +kernel) (by omega) rfl rfl rfl rfl (Nat.le_of_ble_eq_true rfl) (by decide) ⟨by decide, by decide⟩ ?_
    rintro a9 σ9 ⟨ea9, hσ9⟩
    obtain rfl := ea9.symm
    subst hσ9
    refine g_retI (by decide +kernel) rfl (Or.inl rfl) ⟨by decide, by decide⟩ ?_
    first
      | (have hz : ¬ (0 ≤ c ∧ c < σ 1 0) := h8
         exact zRes.no (zQf.rf ho hR) (if_neg hz) (by decide))
      | exact zRes.ok (zQf.fq hF hR) (if_pos h8) (by rw [Int.toNat_natCast]; exact ea.symm)
  · have h8 := zb1.mp h8
    refine g_aload_n (i := 0) (by decide +kernel) rfl ?_
    refine g_aload_n (i := 0) (by decide +kernel) rfl ?_
    refine g_getr f_Nc_43 (by decide +kernel) (by omega) rfl rfl ?_
    refine g_iload_n (i := 1) (by decide +kernel) rfl ?_
    refine g_iconst (a := 0) (by decide +kernel) ?_
    refine g_sipush (a := 1999) (by decide +kernel) (by decide) ?_
    obtain ⟨k, rfl⟩ := Int.eq_ofNat_of_zero_le h8.1
    refine g_cVI (st := _) (c_Sr_unlikeLocals (k := k) (f := 0) (l := 1999) hn ho (by omega) (by decide) (by decide)) k_Sr_unlikeLocals l_Nc_324 (by decide +kernel) (by omega) rfl rfl rfl rfl (Nat.le_of_ble_eq_true rfl) (by decide) ⟨by decide, by decide⟩ ?_
    rintro a τ1 ⟨hF, ea⟩
    refine g_cVI (st := _) (c_Nc_give hn) k_Nc_give l_Nc_208 (by decide +kernel) (by omega) rfl rfl rfl rfl (Nat.le_of_ble_eq_true rfl) (by decide) ⟨by decide, by decide⟩ ?_
    rintro a9 σ9 ⟨ea9, hσ9⟩
    obtain rfl := ea9.symm
    subst hσ9
    refine g_goto (off := 8) (tgt := 35) (by decide +kernel) (by decide) ?_
    refine g_retI (by decide +kernel) rfl (Or.inl rfl) ⟨by decide, by decide⟩ ?_
    first
      | (have hz : ¬ (0 ≤ c ∧ c < σ 1 0) := h8
         exact zRes.no (zQf.rf ho hR) (if_neg hz) (by decide))
      | exact zRes.ok (zQf.fq hF hR) (if_pos h8) (by rw [Int.toNat_natCast]; exact ea.symm)
