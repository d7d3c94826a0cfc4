theorem c_Md_clip {G : zG} {n : Nat} {σ : zSt} {S : zSt} (hn : 220 ≤ n) (hS : zMc σ S) {c w : Int} (z1 : zr c) (z2 : zr w) : Gm G y_Md_clip m_Md_clip 4 0 0 [vr G 189, vi c, vi w] n SH σ (zI n SH (fun a σ' => zRM σ σ' a (if w < 0 ∨ 18 < w then 1 else if ¬ (0 ≤ c ∧ c < S 0 0) then 2 else 0) (zclp S c.toNat w))) := by
  refine g_enter (L := [(0, _), (1, _), (2, _)]) (by decide) rfl rfl rfl (Nat.le_of_ble_eq_true rfl) (fun X => ?_)
  have e0 := hS.n
  have e8 := hS.p
  have hN := hS.N
  have hz : zN S = (S 0 0).toNat := rfl
  obtain ⟨z1a, z1b⟩ := id z1
  obtain ⟨z2a, z2b⟩ := id z2
  refine g_aload_n (i := 0) (by decide +kernel) rfl ?_
  refine g_iconst (a := 0) (by decide +kernel) ?_
  refine g_puti f_Md_142 (by decide +kernel) (by omega) rfl rfl ?_
  refine g_aload_n (i := 0) (by decide +kernel) rfl ?_
  refine g_iconst (a := 0) (by decide +kernel) ?_
  refine g_puti f_Md_145 (by decide +kernel) (by omega) rfl rfl ?_
  obtain ⟨τ, eτ⟩ : ∃ τ, τ = zs (zs σ 189 3 0) 189 2 0 := ⟨_, rfl⟩
  rw [← eτ]
  have f0 : zMF σ τ := by rw [eτ]; exact ((zMF.rf σ).put (by decide)).put (by decide)
  have s0 : τ 189 2 = 0 := by rw [eτ, zs_eq]
  have hT : zMc τ S := hS.moved (f0.1 190 (by decide))
  have et := hT.n
  have ep := hT.p
  refine g_iload_n (i := 2) (by decide +kernel) rfl ?_
  refine g_iconst (a := 0) (by decide +kernel) ?_
  refine g_bipush (a := 18) (by decide +kernel) (by decide) ?_
  refine g_cSI (st := _) (c_Md_isIn ⟨by omega, by omega⟩ ⟨by omega, by omega⟩ ⟨by omega, by omega⟩) k_Md_isIn l_Md_152 (by decide +kernel) rfl rfl (Nat.le_of_ble_eq_true rfl) (by decide) ⟨by decide, by decide⟩ ?_
  rintro a9 σ9 ⟨ea9, hσ9⟩
  obtain rfl := hσ9.symm
  subst ea9
  refine g_if_ne (off := 9) (tgt := 26) (by decide +kernel) (by decide) zbr (fun h17 => ?_) (fun h17 => ?_)
  · have h17 := zb1.mp h17
    refine g_aload_n (i := 0) (by decide +kernel) rfl ?_
    refine g_iload_n (i := 1) (by decide +kernel) rfl ?_
    refine g_cVI (st := _) (c_Md_isClip (k := c) hn (by assumption) (by rw [hT.n]; omega)) k_Md_isClip l_Md_313 (by decide +kernel) (by omega) rfl rfl rfl rfl (Nat.le_of_ble_eq_true rfl) (by decide) ⟨by decide, by decide⟩ ?_
    rintro a9 σ9 ⟨ea9, hσ9⟩
    obtain rfl := hσ9.symm
    rw [hT.n] at ea9
    subst ea9
    refine g_if_ne (off := 9) (tgt := 40) (by decide +kernel) (by decide) zbr (fun h31 => ?_) (fun h31 => ?_)
    · have h31 := zb1.mp h31
      obtain ⟨k, rfl⟩ := Int.eq_ofNat_of_zero_le h31.1
      have kN : k < zN S := by omega
      refine g_aload_n (i := 0) (by decide +kernel) rfl ?_
      refine g_cVV (st := _) (c_Md_laysAll hn hT) k_Md_laysAll l_Md_195 (by decide +kernel) (by omega) rfl rfl rfl rfl (Nat.le_of_ble_eq_true rfl) (by decide) ⟨by decide, by decide⟩ ?_
      rintro υ ⟨hf, hl⟩
      have f1 := f0.of (fun a ha => hf a (by omega))
      have s1 : υ 189 2 = 0 := by rw [hf 189 (by omega)]; exact s0
      have hU : zMc υ S := hT.moved (hf 190 (by omega))
      have uf : ∀ j, υ 189 j = τ 189 j := fun j => by rw [hf 189 (by omega)]
      refine g_iload_n (i := 2) (by decide +kernel) rfl ?_
      rcases (by omega : w = 0 ∨ w = 1 ∨ w = 2 ∨ w = 3 ∨ w = 4 ∨ w = 5 ∨ w = 6 ∨ w = 7 ∨ w = 8 ∨ w = 9 ∨ w = 10 ∨ w = 11 ∨ w = 12 ∨ w = 13 ∨ w = 14 ∨ w = 15 ∨ w = 16 ∨ w = 17 ∨ w = 18 ∨ (w < 0 ∨ 18 < w)) with h45 | h45 | h45 | h45 | h45 | h45 | h45 | h45 | h45 | h45 | h45 | h45 | h45 | h45 | h45 | h45 | h45 | h45 | h45 | h45
      · refine g_tableIn (dflt := 193) (lo := 0) (hi := 18) (offs := #[91, 97, 103, 113, 193, 193, 193, 193, 193, 193, 119, 130, 141, 152, 160, 168, 183, 183, 183]) (len := 91) (off := 91) (tgt := 136) (by decide +kernel) ⟨by omega, by omega⟩ (by omega) (by omega) (by rw [h45]; rfl) (by decide) ?_
        refine g_aload_n (i := 0) (by decide +kernel) rfl ?_
        refine g_iload_n (i := 1) (by decide +kernel) rfl ?_
        refine g_cVI (st := _) (c_Md_kind (k := k) hn (by omega)) k_Md_kind l_Md_182 (by decide +kernel) (by omega) rfl rfl rfl rfl (Nat.le_of_ble_eq_true rfl) (by decide) ⟨by decide, by decide⟩ ?_
        rintro a9 σ9 ⟨ea9, hσ9⟩
        obtain rfl := hσ9.symm
        subst ea9
        refine g_retI (by decide +kernel) rfl (Or.inl rfl) ⟨by decide, by decide⟩ ?_
        refine zRM.ok f1 (by rw [if_neg (by omega), if_neg (by omega)]) s1 ?_
        unfold zclp
        rw [Int.toNat_natCast, if_pos (by omega)]
        exact hU.kd kN
      · refine g_tableIn (dflt := 193) (lo := 0) (hi := 18) (offs := #[91, 97, 103, 113, 193, 193, 193, 193, 193, 193, 119, 130, 141, 152, 160, 168, 183, 183, 183]) (len := 91) (off := 97) (tgt := 142) (by decide +kernel) ⟨by omega, by omega⟩ (by omega) (by omega) (by rw [h45]; rfl) (by decide) ?_
        refine g_aload_n (i := 0) (by decide +kernel) rfl ?_
        refine g_iload_n (i := 1) (by decide +kernel) rfl ?_
        refine g_cVI (st := _) (c_Md_around (k := k) hn (by omega)) k_Md_around l_Md_169 (by decide +kernel) (by omega) rfl rfl rfl rfl (Nat.le_of_ble_eq_true rfl) (by decide) ⟨by decide, by decide⟩ ?_
        rintro a9 σ9 ⟨ea9, hσ9⟩
        obtain rfl := hσ9.symm
        subst ea9
        refine g_retI (by decide +kernel) rfl (Or.inl rfl) ⟨by decide, by decide⟩ ?_
        refine zRM.ok f1 (by rw [if_neg (by omega), if_neg (by omega)]) s1 ?_
        unfold zclp
        rw [Int.toNat_natCast, if_neg (by omega), if_pos (by omega)]
        exact hU.ar kN
      · refine g_tableIn (dflt := 193) (lo := 0) (hi := 18) (offs := #[91, 97, 103, 113, 193, 193, 193, 193, 193, 193, 119, 130, 141, 152, 160, 168, 183, 183, 183]) (len := 91) (off := 103) (tgt := 148) (by decide +kernel) ⟨by omega, by omega⟩ (by omega) (by omega) (by rw [h45]; rfl) (by decide) ?_
        refine g_aload_n (i := 0) (by decide +kernel) rfl ?_
        refine g_getr f_Md_7 (by decide +kernel) (by omega) rfl rfl ?_
        refine g_bipush (a := 26) (by decide +kernel) (by decide) ?_
        refine g_iload_n (i := 1) (by decide +kernel) rfl ?_
        refine g_iadd (by decide +kernel) ?_
        refine g_iald (j := (26 + k)) (by decide +kernel) (by omega) rfl (by omega) (by omega) (by decide) ?_
        refine g_retI (by decide +kernel) rfl (Or.inl rfl) ⟨by decide, by decide⟩ ?_
        refine zRM.ok f1 (by rw [if_neg (by omega), if_neg (by omega)]) s1 ?_
        unfold zclp
        rw [Int.toNat_natCast, if_neg (by omega), if_neg (by omega), if_pos (by omega)]
        exact hU.pl kN
      · refine g_tableIn (dflt := 193) (lo := 0) (hi := 18) (offs := #[91, 97, 103, 113, 193, 193, 193, 193, 193, 193, 119, 130, 141, 152, 160, 168, 183, 183, 183]) (len := 91) (off := 113) (tgt := 158) (by decide +kernel) ⟨by omega, by omega⟩ (by omega) (by omega) (by rw [h45]; rfl) (by decide) ?_
        refine g_aload_n (i := 0) (by decide +kernel) rfl ?_
        refine g_iload_n (i := 1) (by decide +kernel) rfl ?_
        refine g_cVI (st := _) (c_Md_manyIn (q := (k : Int)) hn hU ⟨by omega, by omega⟩) k_Md_manyIn l_Md_173 (by decide +kernel) (by omega) rfl rfl rfl rfl (Nat.le_of_ble_eq_true rfl) (by decide) ⟨by decide, by decide⟩ ?_
        rintro a9 σ9 ⟨ea9, hσ9⟩
        obtain rfl := hσ9.symm
        refine g_retI (by decide +kernel) rfl (Or.inl rfl) ⟨by decide, by decide⟩ ?_
        refine zRM.ok f1 (by rw [if_neg (by omega), if_neg (by omega)]) s1 ?_
        unfold zclp
        rw [Int.toNat_natCast, if_neg (by omega), if_neg (by omega), if_neg (by omega), if_pos (by omega)]
        exact ea9
      · refine g_tableIn (dflt := 193) (lo := 0) (hi := 18) (offs := #[91, 97, 103, 113, 193, 193, 193, 193, 193, 193, 119, 130, 141, 152, 160, 168, 183, 183, 183]) (len := 91) (off := 193) (tgt := 238) (by decide +kernel) ⟨by omega, by omega⟩ (by omega) (by omega) (by rw [h45]; rfl) (by decide) ?_
        refine g_aload_n (i := 0) (by decide +kernel) rfl ?_
        refine g_iload_n (i := 1) (by decide +kernel) rfl ?_
        refine g_iload_n (i := 2) (by decide +kernel) rfl ?_
        refine g_iconst (a := 4) (by decide +kernel) ?_
        refine g_isub (by decide +kernel) ?_
        obtain ⟨v, ev⟩ := Int.eq_ofNat_of_zero_le (show 0 ≤ w - 4 by omega)
        rw [ev]
        refine g_cVI (st := _) (c_Md_marked (k := k) (w := v) hn (by omega) (by omega)) k_Md_marked l_Md_192 (by decide +kernel) (by omega) rfl rfl rfl rfl (Nat.le_of_ble_eq_true rfl) (by decide) ⟨by decide, by decide⟩ ?_
        rintro a9 σ9 ⟨ea9, hσ9⟩
        obtain rfl := hσ9.symm
        rw [hU.mk kN (by omega)] at ea9
        refine g_retI (by decide +kernel) rfl (Or.inl rfl) ⟨by decide, by decide⟩ ?_
        refine zRM.ok f1 (by rw [if_neg (by omega), if_neg (by omega)]) s1 ?_
        unfold zclp
        rw [Int.toNat_natCast, if_neg (by omega), if_neg (by omega), if_neg (by omega), if_neg (by omega), if_pos (by omega)]
        rw [ea9, ev, Int.toNat_natCast]
      · refine g_tableIn (dflt := 193) (lo := 0) (hi := 18) (offs := #[91, 97, 103, 113, 193, 193, 193, 193, 193, 193, 119, 130, 141, 152, 160, 168, 183, 183, 183]) (len := 91) (off := 193) (tgt := 238) (by decide +kernel) ⟨by omega, by omega⟩ (by omega) (by omega) (by rw [h45]; rfl) (by decide) ?_
        refine g_aload_n (i := 0) (by decide +kernel) rfl ?_
        refine g_iload_n (i := 1) (by decide +kernel) rfl ?_
        refine g_iload_n (i := 2) (by decide +kernel) rfl ?_
        refine g_iconst (a := 4) (by decide +kernel) ?_
        refine g_isub (by decide +kernel) ?_
        obtain ⟨v, ev⟩ := Int.eq_ofNat_of_zero_le (show 0 ≤ w - 4 by omega)
        rw [ev]
        refine g_cVI (st := _) (c_Md_marked (k := k) (w := v) hn (by omega) (by omega)) k_Md_marked l_Md_192 (by decide +kernel) (by omega) rfl rfl rfl rfl (Nat.le_of_ble_eq_true rfl) (by decide) ⟨by decide, by decide⟩ ?_
        rintro a9 σ9 ⟨ea9, hσ9⟩
        obtain rfl := hσ9.symm
        rw [hU.mk kN (by omega)] at ea9
        refine g_retI (by decide +kernel) rfl (Or.inl rfl) ⟨by decide, by decide⟩ ?_
        refine zRM.ok f1 (by rw [if_neg (by omega), if_neg (by omega)]) s1 ?_
        unfold zclp
        rw [Int.toNat_natCast, if_neg (by omega), if_neg (by omega), if_neg (by omega), if_neg (by omega), if_pos (by omega)]
        rw [ea9, ev, Int.toNat_natCast]
      · refine g_tableIn (dflt := 193) (lo := 0) (hi := 18) (offs := #[91, 97, 103, 113, 193, 193, 193, 193, 193, 193, 119, 130, 141, 152, 160, 168, 183, 183, 183]) (len := 91) (off := 193) (tgt := 238) (by decide +kernel) ⟨by omega, by omega⟩ (by omega) (by omega) (by rw [h45]; rfl) (by decide) ?_
        refine g_aload_n (i := 0) (by decide +kernel) rfl ?_
        refine g_iload_n (i := 1) (by decide +kernel) rfl ?_
        refine g_iload_n (i := 2) (by decide +kernel) rfl ?_
        refine g_iconst (a := 4) (by decide +kernel) ?_
        refine g_isub (by decide +kernel) ?_
        obtain ⟨v, ev⟩ := Int.eq_ofNat_of_zero_le (show 0 ≤ w - 4 by omega)
        rw [ev]
        refine g_cVI (st := _) (c_Md_marked (k := k) (w := v) hn (by omega) (by omega)) k_Md_marked l_Md_192 (by decide +kernel) (by omega) rfl rfl rfl rfl (Nat.le_of_ble_eq_true rfl) (by decide) ⟨by decide, by decide⟩ ?_
        rintro a9 σ9 ⟨ea9, hσ9⟩
        obtain rfl := hσ9.symm
        rw [hU.mk kN (by omega)] at ea9
        refine g_retI (by decide +kernel) rfl (Or.inl rfl) ⟨by decide, by decide⟩ ?_
        refine zRM.ok f1 (by rw [if_neg (by omega), if_neg (by omega)]) s1 ?_
        unfold zclp
        rw [Int.toNat_natCast, if_neg (by omega), if_neg (by omega), if_neg (by omega), if_neg (by omega), if_pos (by omega)]
        rw [ea9, ev, Int.toNat_natCast]
      · refine g_tableIn (dflt := 193) (lo := 0) (hi := 18) (offs := #[91, 97, 103, 113, 193, 193, 193, 193, 193, 193, 119, 130, 141, 152, 160, 168, 183, 183, 183]) (len := 91) (off := 193) (tgt := 238) (by decide +kernel) ⟨by omega, by omega⟩ (by omega) (by omega) (by rw [h45]; rfl) (by decide) ?_
        refine g_aload_n (i := 0) (by decide +kernel) rfl ?_
        refine g_iload_n (i := 1) (by decide +kernel) rfl ?_
        refine g_iload_n (i := 2) (by decide +kernel) rfl ?_
        refine g_iconst (a := 4) (by decide +kernel) ?_
        refine g_isub (by decide +kernel) ?_
        obtain ⟨v, ev⟩ := Int.eq_ofNat_of_zero_le (show 0 ≤ w - 4 by omega)
        rw [ev]
        refine g_cVI (st := _) (c_Md_marked (k := k) (w := v) hn (by omega) (by omega)) k_Md_marked l_Md_192 (by decide +kernel) (by omega) rfl rfl rfl rfl (Nat.le_of_ble_eq_true rfl) (by decide) ⟨by decide, by decide⟩ ?_
        rintro a9 σ9 ⟨ea9, hσ9⟩
        obtain rfl := hσ9.symm
        rw [hU.mk kN (by omega)] at ea9
        refine g_retI (by decide +kernel) rfl (Or.inl rfl) ⟨by decide, by decide⟩ ?_
        refine zRM.ok f1 (by rw [if_neg (by omega), if_neg (by omega)]) s1 ?_
        unfold zclp
        rw [Int.toNat_natCast, if_neg (by omega), if_neg (by omega), if_neg (by omega), if_neg (by omega), if_pos (by omega)]
        rw [ea9, ev, Int.toNat_natCast]
      · refine g_tableIn (dflt := 193) (lo := 0) (hi := 18) (offs := #[91, 97, 103, 113, 193, 193, 193, 193, 193, 193, 119, 130, 141, 152, 160, 168, 183, 183, 183]) (len := 91) (off := 193) (tgt := 238) (by decide +kernel) ⟨by omega, by omega⟩ (by omega) (by omega) (by rw [h45]; rfl) (by decide) ?_
        refine g_aload_n (i := 0) (by decide +kernel) rfl ?_
        refine g_iload_n (i := 1) (by decide +kernel) rfl ?_
        refine g_iload_n (i := 2) (by decide +kernel) rfl ?_
        refine g_iconst (a := 4) (by decide +kernel) ?_
        refine g_isub (by decide +kernel) ?_
        obtain ⟨v, ev⟩ := Int.eq_ofNat_of_zero_le (show 0 ≤ w - 4 by omega)
        rw [ev]
        refine g_cVI (st := _) (c_Md_marked (k := k) (w := v) hn (by omega) (by omega)) k_Md_marked l_Md_192 (by decide +kernel) (by omega) rfl rfl rfl rfl (Nat.le_of_ble_eq_true rfl) (by decide) ⟨by decide, by decide⟩ ?_
        rintro a9 σ9 ⟨ea9, hσ9⟩
        obtain rfl := hσ9.symm
        rw [hU.mk kN (by omega)] at ea9
        refine g_retI (by decide +kernel) rfl (Or.inl rfl) ⟨by decide, by decide⟩ ?_
        refine zRM.ok f1 (by rw [if_neg (by omega), if_neg (by omega)]) s1 ?_
        unfold zclp
        rw [Int.toNat_natCast, if_neg (by omega), if_neg (by omega), if_neg (by omega), if_neg (by omega), if_pos (by omega)]
        rw [ea9, ev, Int.toNat_natCast]
      · refine g_tableIn (dflt := 193) (lo := 0) (hi := 18) (offs := #[91, 97, 103, 113, 193, 193, 193, 193, 193, 193, 119, 130, 141, 152, 160, 168, 183, 183, 183]) (len := 91) (off := 193) (tgt := 238) (by decide +kernel) ⟨by omega, by omega⟩ (by omega) (by omega) (by rw [h45]; rfl) (by decide) ?_
        refine g_aload_n (i := 0) (by decide +kernel) rfl ?_
        refine g_iload_n (i := 1) (by decide +kernel) rfl ?_
        refine g_iload_n (i := 2) (by decide +kernel) rfl ?_
        refine g_iconst (a := 4) (by decide +kernel) ?_
        refine g_isub (by decide +kernel) ?_
        obtain ⟨v, ev⟩ := Int.eq_ofNat_of_zero_le (show 0 ≤ w - 4 by omega)
        rw [ev]
        refine g_cVI (st := _) (c_Md_marked (k := k) (w := v) hn (by omega) (by omega)) k_Md_marked l_Md_192 (by decide +kernel) (by omega) rfl rfl rfl rfl (Nat.le_of_ble_eq_true rfl) (by decide) ⟨by decide, by decide⟩ ?_
        rintro a9 σ9 ⟨ea9, hσ9⟩
        obtain rfl := hσ9.symm
        rw [hU.mk kN (by omega)] at ea9
        refine g_retI (by decide +kernel) rfl (Or.inl rfl) ⟨by decide, by decide⟩ ?_
        refine zRM.ok f1 (by rw [if_neg (by omega), if_neg (by omega)]) s1 ?_
        unfold zclp
        rw [Int.toNat_natCast, if_neg (by omega), if_neg (by omega), if_neg (by omega), if_neg (by omega), if_pos (by omega)]
        rw [ea9, ev, Int.toNat_natCast]
      · refine g_tableIn (dflt := 193) (lo := 0) (hi := 18) (offs := #[91, 97, 103, 113, 193, 193, 193, 193, 193, 193, 119, 130, 141, 152, 160, 168, 183, 183, 183]) (len := 91) (off := 119) (tgt := 164) (by decide +kernel) ⟨by omega, by omega⟩ (by omega) (by omega) (by rw [h45]; rfl) (by decide) ?_
        refine g_aload_n (i := 0) (by decide +kernel) rfl ?_
        refine g_getr f_Md_7 (by decide +kernel) (by omega) rfl rfl ?_
        refine g_sipush (a := 146) (by decide +kernel) (by decide) ?_
        refine g_iload_n (i := 1) (by decide +kernel) rfl ?_
        refine g_iadd (by decide +kernel) ?_
        refine g_iald (j := (146 + k)) (by decide +kernel) (by omega) rfl (by omega) (by omega) (by decide) ?_
        refine g_retI (by decide +kernel) rfl (Or.inl rfl) ⟨by decide, by decide⟩ ?_
        refine zRM.ok f1 (by rw [if_neg (by omega), if_neg (by omega)]) s1 ?_
        unfold zclp
        rw [Int.toNat_natCast, if_neg (by omega), if_neg (by omega), if_neg (by omega), if_neg (by omega), if_neg (by omega), if_pos (by omega)]
        exact hU.hw kN
      · refine g_tableIn (dflt := 193) (lo := 0) (hi := 18) (offs := #[91, 97, 103, 113, 193, 193, 193, 193, 193, 193, 119, 130, 141, 152, 160, 168, 183, 183, 183]) (len := 91) (off := 130) (tgt := 175) (by decide +kernel) ⟨by omega, by omega⟩ (by omega) (by omega) (by rw [h45]; rfl) (by decide) ?_
        refine g_aload_n (i := 0) (by decide +kernel) rfl ?_
        refine g_getr f_Md_7 (by decide +kernel) (by omega) rfl rfl ?_
        refine g_sipush (a := 158) (by decide +kernel) (by decide) ?_
        refine g_iload_n (i := 1) (by decide +kernel) rfl ?_
        refine g_iadd (by decide +kernel) ?_
        refine g_iald (j := (158 + k)) (by decide +kernel) (by omega) rfl (by omega) (by omega) (by decide) ?_
        refine g_retI (by decide +kernel) rfl (Or.inl rfl) ⟨by decide, by decide⟩ ?_
        refine zRM.ok f1 (by rw [if_neg (by omega), if_neg (by omega)]) s1 ?_
        unfold zclp
        rw [Int.toNat_natCast, if_neg (by omega), if_neg (by omega), if_neg (by omega), if_neg (by omega), if_neg (by omega), if_neg (by omega), if_pos (by omega)]
        exact hU.ot kN
      · refine g_tableIn (dflt := 193) (lo := 0) (hi := 18) (offs := #[91, 97, 103, 113, 193, 193, 193, 193, 193, 193, 119, 130, 141, 152, 160, 168, 183, 183, 183]) (len := 91) (off := 141) (tgt := 186) (by decide +kernel) ⟨by omega, by omega⟩ (by omega) (by omega) (by rw [h45]; rfl) (by decide) ?_
        refine g_aload_n (i := 0) (by decide +kernel) rfl ?_
        refine g_getr f_Md_7 (by decide +kernel) (by omega) rfl rfl ?_
        refine g_sipush (a := 170) (by decide +kernel) (by decide) ?_
        refine g_iload_n (i := 1) (by decide +kernel) rfl ?_
        refine g_iadd (by decide +kernel) ?_
        refine g_iald (j := (170 + k)) (by decide +kernel) (by omega) rfl (by omega) (by omega) (by decide) ?_
        refine g_retI (by decide +kernel) rfl (Or.inl rfl) ⟨by decide, by decide⟩ ?_
        refine zRM.ok f1 (by rw [if_neg (by omega), if_neg (by omega)]) s1 ?_
        unfold zclp
        rw [Int.toNat_natCast, if_neg (by omega), if_neg (by omega), if_neg (by omega), if_neg (by omega), if_neg (by omega), if_neg (by omega), if_neg (by omega), if_pos (by omega)]
        exact hU.mu kN
      · refine g_tableIn (dflt := 193) (lo := 0) (hi := 18) (offs := #[91, 97, 103, 113, 193, 193, 193, 193, 193, 193, 119, 130, 141, 152, 160, 168, 183, 183, 183]) (len := 91) (off := 152) (tgt := 197) (by decide +kernel) ⟨by omega, by omega⟩ (by omega) (by omega) (by rw [h45]; rfl) (by decide) ?_
        refine g_aload_n (i := 0) (by decide +kernel) rfl ?_
        refine g_getr f_Md_13 (by decide +kernel) (by omega) rfl rfl ?_
        refine g_iload_n (i := 1) (by decide +kernel) rfl ?_
        refine g_lald (j := k) (by decide +kernel) (by omega) rfl (by omega) (by omega) (by decide) ?_
        refine g_l2i (by decide +kernel) ?_
        refine g_retI (by decide +kernel) rfl (Or.inl rfl) ⟨by decide, by decide⟩ ?_
        refine zRM.ok f1 (by rw [if_neg (by omega), if_neg (by omega)]) s1 ?_
        unfold zclp
        rw [Int.toNat_natCast, if_neg (by omega), if_neg (by omega), if_neg (by omega), if_neg (by omega), if_neg (by omega), if_neg (by omega), if_neg (by omega), if_neg (by omega), if_pos (by omega)]
        exact (hl k kN).1
      · refine g_tableIn (dflt := 193) (lo := 0) (hi := 18) (offs := #[91, 97, 103, 113, 193, 193, 193, 193, 193, 193, 119, 130, 141, 152, 160, 168, 183, 183, 183]) (len := 91) (off := 160) (tgt := 205) (by decide +kernel) ⟨by omega, by omega⟩ (by omega) (by omega) (by rw [h45]; rfl) (by decide) ?_
        refine g_aload_n (i := 0) (by decide +kernel) rfl ?_
        refine g_getr f_Md_17 (by decide +kernel) (by omega) rfl rfl ?_
        refine g_iload_n (i := 1) (by decide +kernel) rfl ?_
        refine g_lald (j := k) (by decide +kernel) (by omega) rfl (by omega) (by omega) (by decide) ?_
        refine g_l2i (by decide +kernel) ?_
        refine g_retI (by decide +kernel) rfl (Or.inl rfl) ⟨by decide, by decide⟩ ?_
        refine zRM.ok f1 (by rw [if_neg (by omega), if_neg (by omega)]) s1 ?_
        unfold zclp
        rw [Int.toNat_natCast, if_neg (by omega), if_neg (by omega), if_neg (by omega), if_neg (by omega), if_neg (by omega), if_neg (by omega), if_neg (by omega), if_neg (by omega), if_neg (by omega), if_pos (by omega)]
        exact (hl k kN).2.1
      · refine g_tableIn (dflt := 193) (lo := 0) (hi := 18) (offs := #[91, 97, 103, 113, 193, 193, 193, 193, 193, 193, 119, 130, 141, 152, 160, 168, 183, 183, 183]) (len := 91) (off := 168) (tgt := 213) (by decide +kernel) ⟨by omega, by omega⟩ (by omega) (by omega) (by rw [h45]; rfl) (by decide) ?_
        refine g_aload_n (i := 0) (by decide +kernel) rfl ?_
        refine g_getr f_Md_23 (by decide +kernel) (by omega) rfl rfl ?_
        refine g_iload_n (i := 1) (by decide +kernel) rfl ?_
        refine g_zald (j := k) (by decide +kernel) (by omega) rfl (by omega) (by omega) (by decide) ?_
        refine g_if_eq (off := 7) (tgt := 226) (by decide +kernel) (by decide) ⟨by rw [(hl k kN).2.2.2]; split <;> decide, by rw [(hl k kN).2.2.2]; split <;> decide⟩ (fun h219 => ?_) (fun h219 => ?_)
        · refine g_iconst (a := 0) (by decide +kernel) ?_
          refine g_retI (by decide +kernel) rfl (Or.inl rfl) ⟨by decide, by decide⟩ ?_
          refine zRM.ok f1 (by rw [if_neg (by omega), if_neg (by omega)]) s1 ?_
          unfold zclp
          rw [Int.toNat_natCast, if_neg (by omega), if_neg (by omega), if_neg (by omega), if_neg (by omega), if_neg (by omega), if_neg (by omega), if_neg (by omega), if_neg (by omega), if_neg (by omega), if_neg (by omega), if_pos (by omega)]
          have q := (hl k kN).2.2.2
          omega
        · refine g_iconst (a := 1) (by decide +kernel) ?_
          refine g_goto (off := 4) (tgt := 227) (by decide +kernel) (by decide) ?_
          refine g_retI (by decide +kernel) rfl (Or.inl rfl) ⟨by decide, by decide⟩ ?_
          refine zRM.ok f1 (by rw [if_neg (by omega), if_neg (by omega)]) s1 ?_
          unfold zclp
          rw [Int.toNat_natCast, if_neg (by omega), if_neg (by omega), if_neg (by omega), if_neg (by omega), if_neg (by omega), if_neg (by omega), if_neg (by omega), if_neg (by omega), if_neg (by omega), if_neg (by omega), if_pos (by omega)]
          have q := (hl k kN).2.2.2
          omega
      · refine g_tableIn (dflt := 193) (lo := 0) (hi := 18) (offs := #[91, 97, 103, 113, 193, 193, 193, 193, 193, 193, 119, 130, 141, 152, 160, 168, 183, 183, 183]) (len := 91) (off := 183) (tgt := 228) (by decide +kernel) ⟨by omega, by omega⟩ (by omega) (by omega) (by rw [h45]; rfl) (by decide) ?_
        refine g_aload_n (i := 0) (by decide +kernel) rfl ?_
        refine g_iload_n (i := 1) (by decide +kernel) rfl ?_
        refine g_iload_n (i := 2) (by decide +kernel) rfl ?_
        refine g_bipush (a := 10) (by decide +kernel) (by decide) ?_
        refine g_isub (by decide +kernel) ?_
        obtain ⟨v, ev⟩ := Int.eq_ofNat_of_zero_le (show 0 ≤ w - 10 by omega)
        rw [ev]
        refine g_cVI (st := _) (c_Md_marked (k := k) (w := v) hn (by omega) (by omega)) k_Md_marked l_Md_192 (by decide +kernel) (by omega) rfl rfl rfl rfl (Nat.le_of_ble_eq_true rfl) (by decide) ⟨by decide, by decide⟩ ?_
        rintro a9 σ9 ⟨ea9, hσ9⟩
        obtain rfl := hσ9.symm
        rw [hU.mk kN (by omega)] at ea9
        refine g_retI (by decide +kernel) rfl (Or.inl rfl) ⟨by decide, by decide⟩ ?_
        refine zRM.ok f1 (by rw [if_neg (by omega), if_neg (by omega)]) s1 ?_
        unfold zclp
        rw [Int.toNat_natCast, if_neg (by omega), if_neg (by omega), if_neg (by omega), if_neg (by omega), if_neg (by omega), if_neg (by omega), if_neg (by omega), if_neg (by omega), if_neg (by omega), if_neg (by omega), if_neg (by omega)]
        rw [ea9, ev, Int.toNat_natCast]
      · refine g_tableIn (dflt := 193) (lo := 0) (hi := 18) (offs := #[91, 97, 103, 113, 193, 193, 193, 193, 193, 193, 119, 130, 141, 152, 160, 168, 183, 183, 183]) (len := 91) (off := 183) (tgt := 228) (by decide +kernel) ⟨by omega, by omega⟩ (by omega) (by omega) (by rw [h45]; rfl) (by decide) ?_
        refine g_aload_n (i := 0) (by decide +kernel) rfl ?_
        refine g_iload_n (i := 1) (by decide +kernel) rfl ?_
        refine g_iload_n (i := 2) (by decide +kernel) rfl ?_
        refine g_bipush (a := 10) (by decide +kernel) (by decide) ?_
        refine g_isub (by decide +kernel) ?_
        obtain ⟨v, ev⟩ := Int.eq_ofNat_of_zero_le (show 0 ≤ w - 10 by omega)
        rw [ev]
        refine g_cVI (st := _) (c_Md_marked (k := k) (w := v) hn (by omega) (by omega)) k_Md_marked l_Md_192 (by decide +kernel) (by omega) rfl rfl rfl rfl (Nat.le_of_ble_eq_true rfl) (by decide) ⟨by decide, by decide⟩ ?_
        rintro a9 σ9 ⟨ea9, hσ9⟩
        obtain rfl := hσ9.symm
        rw [hU.mk kN (by omega)] at ea9
        refine g_retI (by decide +kernel) rfl (Or.inl rfl) ⟨by decide, by decide⟩ ?_
        refine zRM.ok f1 (by rw [if_neg (by omega), if_neg (by omega)]) s1 ?_
        unfold zclp
        rw [Int.toNat_natCast, if_neg (by omega), if_neg (by omega), if_neg (by omega), if_neg (by omega), if_neg (by omega), if_neg (by omega), if_neg (by omega), if_neg (by omega), if_neg (by omega), if_neg (by omega), if_neg (by omega)]
        rw [ea9, ev, Int.toNat_natCast]
      · refine g_tableIn (dflt := 193) (lo := 0) (hi := 18) (offs := #[91, 97, 103, 113, 193, 193, 193, 193, 193, 193, 119, 130, 141, 152, 160, 168, 183, 183, 183]) (len := 91) (off := 183) (tgt := 228) (by decide +kernel) ⟨by omega, by omega⟩ (by omega) (by omega) (by rw [h45]; rfl) (by decide) ?_
        refine g_aload_n (i := 0) (by decide +kernel) rfl ?_
        refine g_iload_n (i := 1) (by decide +kernel) rfl ?_
        refine g_iload_n (i := 2) (by decide +kernel) rfl ?_
        refine g_bipush (a := 10) (by decide +kernel) (by decide) ?_
        refine g_isub (by decide +kernel) ?_
        obtain ⟨v, ev⟩ := Int.eq_ofNat_of_zero_le (show 0 ≤ w - 10 by omega)
        rw [ev]
        refine g_cVI (st := _) (c_Md_marked (k := k) (w := v) hn (by omega) (by omega)) k_Md_marked l_Md_192 (by decide +kernel) (by omega) rfl rfl rfl rfl (Nat.le_of_ble_eq_true rfl) (by decide) ⟨by decide, by decide⟩ ?_
        rintro a9 σ9 ⟨ea9, hσ9⟩
        obtain rfl := hσ9.symm
        rw [hU.mk kN (by omega)] at ea9
        refine g_retI (by decide +kernel) rfl (Or.inl rfl) ⟨by decide, by decide⟩ ?_
        refine zRM.ok f1 (by rw [if_neg (by omega), if_neg (by omega)]) s1 ?_
        unfold zclp
        rw [Int.toNat_natCast, if_neg (by omega), if_neg (by omega), if_neg (by omega), if_neg (by omega), if_neg (by omega), if_neg (by omega), if_neg (by omega), if_neg (by omega), if_neg (by omega), if_neg (by omega), if_neg (by omega)]
        rw [ea9, ev, Int.toNat_natCast]
      · refine g_tableOut (dflt := 193) (lo := 0) (hi := 18) (offs := #[91, 97, 103, 113, 193, 193, 193, 193, 193, 193, 119, 130, 141, 152, 160, 168, 183, 183, 183]) (len := 91) (tgt := 238) (by decide +kernel) ⟨by omega, by omega⟩ h45 (by decide) ?_
        refine g_aload_n (i := 0) (by decide +kernel) rfl ?_
        refine g_iload_n (i := 1) (by decide +kernel) rfl ?_
        refine g_iload_n (i := 2) (by decide +kernel) rfl ?_
        refine g_iconst (a := 4) (by decide +kernel) ?_
        refine g_isub (by decide +kernel) ?_
        obtain ⟨v, ev⟩ := Int.eq_ofNat_of_zero_le (show 0 ≤ w - 4 by omega)
        rw [ev]
        refine g_cVI (st := _) (c_Md_marked (k := k) (w := v) hn (by omega) (by omega)) k_Md_marked l_Md_192 (by decide +kernel) (by omega) rfl rfl rfl rfl (Nat.le_of_ble_eq_true rfl) (by decide) ⟨by decide, by decide⟩ ?_
        rintro a9 σ9 ⟨ea9, hσ9⟩
        obtain rfl := hσ9.symm
        rw [hU.mk kN (by omega)] at ea9
        refine g_retI (by decide +kernel) rfl (Or.inl rfl) ⟨by decide, by decide⟩ ?_
        refine zRM.ok f1 (by rw [if_neg (by omega), if_neg (by omega)]) s1 ?_
        unfold zclp
        rw [Int.toNat_natCast, if_neg (by omega), if_neg (by omega), if_neg (by omega), if_neg (by omega), if_pos (by omega)]
        rw [ea9, ev, Int.toNat_natCast]
    · have h31 := zb0.mp h31
      refine g_aload_n (i := 0) (by decide +kernel) rfl ?_
      refine g_iconst (a := 2) (by decide +kernel) ?_
      refine g_cVI (st := _) (c_Md_refuse hn) k_Md_refuse l_Md_295 (by decide +kernel) (by omega) rfl rfl rfl rfl (Nat.le_of_ble_eq_true rfl) (by decide) ⟨by decide, by decide⟩ ?_
      rintro a9 σ9 ⟨ea9, hσ9⟩
      obtain rfl := ea9.symm
      subst hσ9
      refine g_retI (by decide +kernel) rfl (Or.inl rfl) ⟨by decide, by decide⟩ ?_
      exact zRM.ref f0 (by rw [if_neg (by omega), if_pos (by omega)]) (by decide)
  · have h17 := zb0.mp h17
    refine g_aload_n (i := 0) (by decide +kernel) rfl ?_
    refine g_iconst (a := 1) (by decide +kernel) ?_
    refine g_cVI (st := _) (c_Md_refuse hn) k_Md_refuse l_Md_295 (by decide +kernel) (by omega) rfl rfl rfl rfl (Nat.le_of_ble_eq_true rfl) (by decide) ⟨by decide, by decide⟩ ?_
    rintro a9 σ9 ⟨ea9, hσ9⟩
    obtain rfl := ea9.symm
    subst hσ9
    refine g_retI (by decide +kernel) rfl (Or.inl rfl) ⟨by decide, by decide⟩ ?_
    exact zRM.ref f0 (if_pos (by omega)) (by decide)
theorem w_Md_next {G : zG} {X : zX} {n : Nat} {σ : zSt} {S : zSt} (hn : 220 ≤ n) (hM : zMz S) (hS : zMc σ S) {u : Int} (hu : 0 ≤ u ∧ u ≤ 1999)  : ∀ (m : Nat) (i f : Nat) (x2 : Int) (τ : zSt), x2 = (i : Int) → zMF σ τ → τ 189 2 = 0 → zPd τ S → zfr (fun s => zdif S (s : Int) ((s : Int) - 1)) (1999 - u).toNat (u + 1).toNat = zfr (fun s => zdif S (s : Int) ((s : Int) - 1)) f i → i + f = 2000 → 1 ≤ i → f < m → Go G X m_Md_next (18, 0, 0, 0, 0) n SH τ 35 [(0, vr G 189), (1, vi u), (2, vi x2)] [] (zI n SH (fun a σ' => zRM σ σ' a (if ¬ (0 ≤ u ∧ u ≤ 1999) then 1 else if zfr (fun s => zdif S (s : Int) ((s : Int) - 1)) (1999 - u).toNat (u + 1).toNat = -1 then 8 else 0) (zfr (fun s => zdif S (s : Int) ((s : Int) - 1)) (1999 - u).toNat (u + 1).toNat))) := by
  intro m
  induction m with
  | zero => intro i f x2 τ e2 hf hs hP eF hif hi hm; exact absurd hm (by omega)
  | succ m ih =>
    intro i f x2 τ e2 hf hs hP eF hif hi hm
    subst e2
    refine g_iload_n (i := 2) (by decide +kernel) rfl ?_
    refine g_sipush (a := 1999) (by decide +kernel) (by decide) ?_
    refine g_icmp_gt (off := 19) (tgt := 58) (by decide +kernel) (by decide) ⟨by omega, by omega⟩ ⟨by omega, by omega⟩ (fun h39 => ?_) (fun h39 => ?_)
    · refine g_aload_n (i := 0) (by decide +kernel) rfl ?_
      refine g_bipush (a := 8) (by decide +kernel) (by decide) ?_
      refine g_cVI (st := _) (c_Md_refuse hn) k_Md_refuse l_Md_295 (by decide +kernel) (by omega) rfl rfl rfl rfl (Nat.le_of_ble_eq_true rfl) (by decide) ⟨by decide, by decide⟩ ?_
      rintro a9 σ9 ⟨ea9, hσ9⟩
      obtain rfl := ea9.symm
      subst hσ9
      refine g_retI (by decide +kernel) rfl (Or.inl rfl) ⟨by decide, by decide⟩ ?_
      have z0 : f = 0 := by omega
      subst z0
      have eF : zfr (fun s => zdif S (s : Int) ((s : Int) - 1)) (1999 - u).toNat (u + 1).toNat = -1 := eF
      exact zRM.ref hf (by rw [if_neg (by omega), if_pos eF]) (by decide)
    · obtain ⟨f, rfl⟩ : ∃ g, f = g + 1 := ⟨f - 1, by omega⟩
      rw [zfr_s] at eF
      refine g_aload_n (i := 0) (by decide +kernel) rfl ?_
      refine g_iload_n (i := 2) (by decide +kernel) rfl ?_
      refine g_cVI (st := _) (c_Md_isChange (t := (i : Int)) hn hP ⟨by omega, by omega⟩) k_Md_isChange l_Md_378 (by decide +kernel) (by omega) rfl rfl rfl rfl (Nat.le_of_ble_eq_true rfl) (by decide) ⟨by decide, by decide⟩ ?_
      rintro a9 σ9 ⟨ea9, hf9, hP9⟩
      subst ea9
      have f9 := hf.of (fun a ha => hf9 a (by omega))
      have s9 : σ9 189 2 = 0 := by rw [hf9 189 (by omega)]; exact hs
      refine g_if_eq (off := 5) (tgt := 52) (by decide +kernel) (by decide) zbr (fun h47 => ?_) (fun h47 => ?_)
      · have h47 := zb0.mp h47
        refine g_iinc (i := 2) (b := 1) (L' := [(0, _), (1, _), (2, _)]) (by decide +kernel) rfl rfl rfl ?_
        refine g_goto (off := -20) (tgt := 35) (by decide +kernel) (by decide) ?_
        rw [if_neg h47] at eF
        exact ih (i + 1) f _ σ9 (by push_cast; rfl) f9 s9 hP9 eF (by omega) (by omega) (by omega)
      · have h47 := zb1.mp h47
        refine g_iload_n (i := 2) (by decide +kernel) rfl ?_
        refine g_retI (by decide +kernel) rfl (Or.inl rfl) ⟨by decide, by decide⟩ ?_
        rw [if_pos h47] at eF
        exact zRM.ok f9 (by rw [if_neg (by omega), if_neg (by omega)]) s9 eF.symm
theorem c_Md_next {G : zG} {n : Nat} {σ : zSt} {S : zSt} (hn : 220 ≤ n) (hM : zMz S) (hS : zMc σ S) {u : Int} (z1 : zr u) : Gm G y_Md_next m_Md_next 18 0 0 [vr G 189, vi u] n SH σ (zI n SH (fun a σ' => zRM σ σ' a (if ¬ (0 ≤ u ∧ u ≤ 1999) then 1 else if zfr (fun s => zdif S (s : Int) ((s : Int) - 1)) (1999 - u).toNat (u + 1).toNat = -1 then 8 else 0) (zfr (fun s => zdif S (s : Int) ((s : Int) - 1)) (1999 - u).toNat (u + 1).toNat))) := by
  refine g_enter (L := [(0, _), (1, _)]) (by decide) rfl rfl rfl (Nat.le_of_ble_eq_true rfl) (fun X => ?_)
  have e0 := hS.n
  have e8 := hS.p
  have hN := hS.N
  have hz : zN S = (S 0 0).toNat := rfl
  obtain ⟨z1a, z1b⟩ := id z1
  refine g_aload_n (i := 0) (by decide +kernel) rfl ?_
  refine g_iconst (a := 0) (by decide +kernel) ?_
  refine g_puti f_Md_142 (by decide +kernel) (by omega) rfl rfl ?_
  refine g_aload_n (i := 0) (by decide +kernel) rfl ?_
  refine g_iconst (a := 0) (by decide +kernel) ?_
  refine g_puti f_Md_145 (by decide +kernel) (by omega) rfl rfl ?_
  obtain ⟨τ, eτ⟩ : ∃ τ, τ = zs (zs σ 189 3 0) 189 2 0 := ⟨_, rfl⟩
  rw [← eτ]
  have f0 : zMF σ τ := by rw [eτ]; exact ((zMF.rf σ).put (by decide)).put (by decide)
  have s0 : τ 189 2 = 0 := by rw [eτ, zs_eq]
  have hT : zMc τ S := hS.moved (f0.1 190 (by decide))
  have et := hT.n
  have ep := hT.p
  refine g_iload_n (i := 1) (by decide +kernel) rfl ?_
  refine g_iconst (a := 0) (by decide +kernel) ?_
  refine g_sipush (a := 1999) (by decide +kernel) (by decide) ?_
  refine g_cSI (st := _) (c_Md_isIn ⟨by omega, by omega⟩ ⟨by omega, by omega⟩ ⟨by omega, by omega⟩) k_Md_isIn l_Md_152 (by decide +kernel) rfl rfl (Nat.le_of_ble_eq_true rfl) (by decide) ⟨by decide, by decide⟩ ?_
  rintro a9 σ9 ⟨ea9, hσ9⟩
  obtain rfl := hσ9.symm
  subst ea9
  refine g_if_ne (off := 9) (tgt := 27) (by decide +kernel) (by decide) zbr (fun h18 => ?_) (fun h18 => ?_)
  · have h18 := zb1.mp h18
    refine g_aload_n (i := 0) (by decide +kernel) rfl ?_
    refine g_cVV (st := _) (c_Md_laysPresses hn hM hT) k_Md_laysPresses l_Md_375 (by decide +kernel) (by omega) rfl rfl rfl rfl (Nat.le_of_ble_eq_true rfl) (by decide) ⟨by decide, by decide⟩ ?_
    rintro υ ⟨hf, hP⟩
    have f1 := f0.of (fun a ha => hf a (by omega))
    have s1 : υ 189 2 = 0 := by rw [hf 189 (by omega)]; exact s0
    refine g_iload_n (i := 1) (by decide +kernel) rfl ?_
    refine g_iconst (a := 1) (by decide +kernel) ?_
    refine g_iadd (by decide +kernel) ?_
    refine g_istore_n (i := 2) (L' := [(0, _), (1, _), (2, _)]) (by decide +kernel) rfl rfl ?_
    exact w_Md_next hn hM hS (by omega) 2001 (u + 1).toNat (1999 - u).toNat _ υ (by omega) f1 s1 hP rfl (by omega) (by omega) (by omega)
  · have h18 := zb0.mp h18
    refine g_aload_n (i := 0) (by decide +kernel) rfl ?_
    refine g_iconst (a := 1) (by decide +kernel) ?_
    refine g_cVI (st := _) (c_Md_refuse hn) k_Md_refuse l_Md_295 (by decide +kernel) (by omega) rfl rfl rfl rfl (Nat.le_of_ble_eq_true rfl) (by decide) ⟨by decide, by decide⟩ ?_
    rintro a9 σ9 ⟨ea9, hσ9⟩
    obtain rfl := ea9.symm
    subst hσ9
    refine g_retI (by decide +kernel) rfl (Or.inl rfl) ⟨by decide, by decide⟩ ?_
    exact zRM.ref f0 (if_pos (by omega)) (by decide)
/-! HOW LEAVES STAND, one after the other put in -/
def zpn (S : zSt) (m k : Nat) : Nat := zcnt (zAh S (S 7 (9 * k + 6)) (k + 1)) m
def zlm (S : zSt) (m : Nat) : Nat := zcnt (fun j => decide (S 1 j = 0)) m
def zSm (S : zSt) (sd : Nat → Int) (m : Nat) : Prop := ∀ i, i < zlm S m → 0 ≤ sd i ∧ (sd i).toNat < m ∧ S 1 (sd i).toNat = 0 ∧ zpn S m (sd i).toNat = i
abbrev zAd (S : zSt) (x y : Nat) : Prop := S 7 (9 * y + 6) < S 7 (9 * x + 6) ∨ (S 7 (9 * x + 6) = S 7 (9 * y + 6) ∧ y + 1 ≤ x)
section SM
variable {S : zSt} {sd sd' : Nat → Int} {m x y t : Nat}
theorem zpn_lt (hx : x < m) (lx : S 1 x = 0) (h : zAd S x y) : zpn S m x < zpn S m y := by
  have c := zcnt_or (A := zAh S (S 7 (9 * x + 6)) (x + 1)) hx
  rw [if_neg (by unfold zAh; rw [decide_eq_true_iff]; omega)] at c
  have k := zcnt_mono (n := m) (p := fun v => zAh S (S 7 (9 * x + 6)) (x + 1) v || decide (v = x)) (q := zAh S (S 7 (9 * y + 6)) (y + 1)) (fun j hj hh => by
    rw [Bool.or_eq_true] at hh
    unfold zAh at *
    rw [decide_eq_true_iff] at *
    rcases hh with hh | hh
    · omega
    · have := of_decide_eq_true hh
      subst this
      omega)
  unfold zpn
  omega
theorem zpn_in (hx : x < m) (lx : S 1 x = 0) : zpn S m x < zlm S m := by
  have c := zcnt_or (A := zAh S (S 7 (9 * x + 6)) (x + 1)) hx
  rw [if_neg (by unfold zAh; rw [decide_eq_true_iff]; omega)] at c
  have k := zcnt_mono (n := m) (p := fun v => zAh S (S 7 (9 * x + 6)) (x + 1) v || decide (v = x)) (q := fun j => decide (S 1 j = 0)) (fun j hj hh => by
    rw [Bool.or_eq_true] at hh
    unfold zAh at *
    rw [decide_eq_true_iff] at *
    rcases hh with hh | hh
    · omega
    · have := of_decide_eq_true hh
      subst this
      exact lx)
  unfold zpn zlm
  omega
theorem zSm.at (h : zSm S sd m) (hx : x < m) (lx : S 1 x = 0) : ∃ i, i < zlm S m ∧ (sd i).toNat = x := by
  have a := zpn_in hx lx
  have b := h _ a
  refine ⟨zpn S m x, a, ?_⟩
  by_cases e : (sd (zpn S m x)).toNat = x
  · exact e
  · have q : zAd S (sd (zpn S m x)).toNat x ∨ zAd S x (sd (zpn S m x)).toNat := by
      unfold zAd; omega
    rcases q with q | q
    · have := zpn_lt b.2.1 b.2.2.1 q; omega
    · have := zpn_lt hx lx q; omega
theorem zSm.up (h : zSm S sd m) {i j : Nat} (hij : i < j) (hj : j < zlm S m) : zAd S (sd i).toNat (sd j).toNat := by
  have a := h i (by omega)
  have b := h j hj
  have q : zAd S (sd i).toNat (sd j).toNat ∨ zAd S (sd j).toNat (sd i).toNat ∨ (sd i).toNat = (sd j).toNat := by unfold zAd; omega
  rcases q with q | q | q
  · exact q
  · have := zpn_lt b.2.1 b.2.2.1 q; omega
  · rw [q] at a; omega
theorem zSm_skip (h : zSm S sd m) (lm : S 1 m ≠ 0) : zSm S sd (m + 1) := by
  have e : zlm S (m + 1) = zlm S m := zcnt_f (decide_eq_false lm)
  intro i hi
  have a := h i (by omega)
  refine ⟨a.1, by omega, a.2.2.1, ?_⟩
  have : zpn S (m + 1) (sd i).toNat = zpn S m (sd i).toNat := zcnt_f (by unfold zAh; exact decide_eq_false (by omega))
  omega
theorem zSm_put (h : zSm S sd m) (lm : S 1 m = 0) (ht : t ≤ zlm S m) (h1 : ∀ i, t ≤ i → i < zlm S m → S 7 (9 * (sd i).toNat + 6) ≤ S 7 (9 * m + 6)) (h2 : t = 0 ∨ S 7 (9 * m + 6) < S 7 (9 * (sd (t - 1)).toNat + 6))
    (s1 : ∀ i, i < t → sd' i = sd i) (s2 : sd' t = m) (s3 : ∀ i, t < i → i ≤ zlm S m → sd' i = sd (i - 1)) : zSm S sd' (m + 1) := by
  have e : zlm S (m + 1) = zlm S m + 1 := zcnt_t (decide_eq_true lm)
  have lo : ∀ i, i < t → S 7 (9 * m + 6) < S 7 (9 * (sd i).toNat + 6) := fun i hi => by
    rcases h2 with h2 | h2
    · omega
    · rcases Nat.lt_or_ge i (t - 1) with z | z
      · have := h.up z (by omega)
        unfold zAd at this
        omega
      · rw [show i = t - 1 by omega]; exact h2
  intro i hi
  rcases Nat.lt_trichotomy i t with z | z | z
  · rw [s1 i z]
    have a := h i (by omega)
    have l := lo i z
    refine ⟨a.1, by omega, a.2.2.1, ?_⟩
    have : zpn S (m + 1) (sd i).toNat = zpn S m (sd i).toNat := zcnt_f (by unfold zAh; exact decide_eq_false (by omega))
    omega
  · subst z
    rw [s2, Int.toNat_natCast]
    refine ⟨by omega, by omega, lm, ?_⟩
    have q : zpn S (m + 1) m = zcnt (zAh S (S 7 (9 * m + 6)) (m + 1)) m := zcnt_f (by unfold zAh; exact decide_eq_false (by omega))
    rw [q]
    rcases Nat.eq_zero_or_pos i with z | z
    · subst z
      refine zcnt_0.mpr (fun j hj => ?_)
      unfold zAh
      refine decide_eq_false (fun y => ?_)
      obtain ⟨p, p1, p2⟩ := h.at hj y.1
      have := h1 p (by omega) p1
      rw [p2] at this
      omega
    · have a := h (i - 1) (by omega)
      have l := lo (i - 1) (by omega)
      have c := zcnt_or (A := zAh S (S 7 (9 * (sd (i - 1)).toNat + 6)) ((sd (i - 1)).toNat + 1)) a.2.1
      rw [if_neg (by unfold zAh; rw [decide_eq_true_iff]; omega)] at c
      have c2 : zcnt (zAh S (S 7 (9 * (sd (i - 1)).toNat + 6)) ((sd (i - 1)).toNat + 1)) m = i - 1 := a.2.2.2
      have g : zcnt (zAh S (S 7 (9 * m + 6)) (m + 1)) m = zcnt (fun v => zAh S (S 7 (9 * (sd (i - 1)).toNat + 6)) ((sd (i - 1)).toNat + 1) v || decide (v = (sd (i - 1)).toNat)) m := by
        refine zcnt_congr (fun j hj => ?_)
        apply Bool.eq_iff_iff.mpr
        rw [Bool.or_eq_true]
        unfold zAh
        rw [decide_eq_true_iff, decide_eq_true_iff, decide_eq_true_iff]
        constructor
        · intro y
          obtain ⟨p, p1, p2⟩ := h.at hj y.1
          rcases Nat.lt_or_ge p i with w | w
          · rcases Nat.lt_or_ge p (i - 1) with v | v
            · have := h.up v (by omega)
              rw [p2] at this
              unfold zAd at this
              exact Or.inl ⟨y.1, by omega⟩
            · rw [show p = i - 1 by omega] at p2
              exact Or.inr p2.symm
          · have := h1 p w p1
            rw [p2] at this
            omega
        · rintro (y | y)
          · exact ⟨y.1, by omega⟩
          · subst y; exact ⟨a.2.2.1, by omega⟩
      rw [g, c, c2]
      omega
  · rw [s3 i z (by omega)]
    have a := h (i - 1) (by omega)
    have l := h1 (i - 1) (by omega) (by omega)
    refine ⟨a.1, by omega, a.2.2.1, ?_⟩
    have : zpn S (m + 1) (sd (i - 1)).toNat = zpn S m (sd (i - 1)).toNat + 1 := zcnt_t (by unfold zAh; exact decide_eq_true ⟨lm, by omega⟩)
    omega
end SM
theorem c_Md_standsAhead {G : zG} {n : Nat} {σ : zSt} {S : zSt} (hn : 220 ≤ n) (hS : zMc σ S) {x y : Nat} (hx : x < zN S) (hy : y < zN S) : Gm G y_Md_standsAhead m_Md_standsAhead 1 0 0 [vr G 189, vi (x : Int), vi (y : Int)] n SH σ (zI n SH (fun a σ' => a = (if zAd S x y then 1 else 0) ∧ σ' = σ)) := by
  refine g_enter (L := [(0, _), (1, _), (2, _)]) (by decide) rfl rfl rfl (Nat.le_of_ble_eq_true rfl) (fun X => ?_)
  have e0 := hS.n
  have e8 := hS.p
  have hN := hS.N
  have hz : zN S = (S 0 0).toNat := rfl
  have mx := hS.mk hx (show 6 < 9 by decide)
  have my := hS.mk hy (show 6 < 9 by decide)
  have rx := hS.mr (show x < 12 by omega) (show 6 < 9 by decide)
  have ry := hS.mr (show y < 12 by omega) (show 6 < 9 by decide)
  refine g_aload_n (i := 0) (by decide +kernel) rfl ?_
  refine g_iload_n (i := 1) (by decide +kernel) rfl ?_
  refine g_bipush (a := 6) (by decide +kernel) (by decide) ?_
  refine g_cVI (st := _) (c_Md_marked (k := x) (w := 6) hn (by omega) (by omega)) k_Md_marked l_Md_192 (by decide +kernel) (by omega) rfl rfl rfl rfl (Nat.le_of_ble_eq_true rfl) (by decide) ⟨by decide, by decide⟩ ?_
  rintro a9 σ9 ⟨ea9, hσ9⟩
  obtain rfl := hσ9.symm
  rw [mx] at ea9
  subst ea9
  refine g_aload_n (i := 0) (by decide +kernel) rfl ?_
  refine g_iload_n (i := 2) (by decide +kernel) rfl ?_
  refine g_bipush (a := 6) (by decide +kernel) (by decide) ?_
  refine g_cVI (st := _) (c_Md_marked (k := y) (w := 6) hn (by omega) (by omega)) k_Md_marked l_Md_192 (by decide +kernel) (by omega) rfl rfl rfl rfl (Nat.le_of_ble_eq_true rfl) (by decide) ⟨by decide, by decide⟩ ?_
  rintro a9 σ9 ⟨ea9, hσ9⟩
  obtain rfl := hσ9.symm
  rw [my] at ea9
  subst ea9
  refine g_icmp_eq (off := 28) (tgt := 42) (by decide +kernel) (by decide) ⟨by omega, by omega⟩ ⟨by omega, by omega⟩ (fun h14 => ?_) (fun h14 => ?_)
  · refine g_iload_n (i := 1) (by decide +kernel) rfl ?_
    refine g_iload_n (i := 2) (by decide +kernel) rfl ?_
    refine g_icmp_le (off := 7) (tgt := 51) (by decide +kernel) (by decide) ⟨by omega, by omega⟩ ⟨by omega, by omega⟩ (fun h44 => ?_) (fun h44 => ?_)
    · refine g_iconst (a := 0) (by decide +kernel) ?_
      refine g_retI (by decide +kernel) rfl (Or.inr ⟨rfl, by decide⟩) ⟨by decide, by decide⟩ ?_
      refine ⟨?_, rfl⟩
      first
        | (rw [if_pos (by omega)])
        | (rw [if_neg (by omega)])
    · refine g_iconst (a := 1) (by decide +kernel) ?_
      refine g_goto (off := 4) (tgt := 52) (by decide +kernel) (by decide) ?_
      refine g_retI (by decide +kernel) rfl (Or.inr ⟨rfl, by decide⟩) ⟨by decide, by decide⟩ ?_
      refine ⟨?_, rfl⟩
      first
        | (rw [if_pos (by omega)])
        | (rw [if_neg (by omega)])
  · refine g_aload_n (i := 0) (by decide +kernel) rfl ?_
    refine g_iload_n (i := 1) (by decide +kernel) rfl ?_
    refine g_bipush (a := 6) (by decide +kernel) (by decide) ?_
    refine g_cVI (st := _) (c_Md_marked (k := x) (w := 6) hn (by omega) (by omega)) k_Md_marked l_Md_192 (by decide +kernel) (by omega) rfl rfl rfl rfl (Nat.le_of_ble_eq_true rfl) (by decide) ⟨by decide, by decide⟩ ?_
    rintro a9 σ9 ⟨ea9, hσ9⟩
    obtain rfl := hσ9.symm
    rw [mx] at ea9
    subst ea9
    refine g_aload_n (i := 0) (by decide +kernel) rfl ?_
    refine g_iload_n (i := 2) (by decide +kernel) rfl ?_
    refine g_bipush (a := 6) (by decide +kernel) (by decide) ?_
    refine g_cVI (st := _) (c_Md_marked (k := y) (w := 6) hn (by omega) (by omega)) k_Md_marked l_Md_192 (by decide +kernel) (by omega) rfl rfl rfl rfl (Nat.le_of_ble_eq_true rfl) (by decide) ⟨by decide, by decide⟩ ?_
    rintro a9 σ9 ⟨ea9, hσ9⟩
    obtain rfl := hσ9.symm
    rw [my] at ea9
    subst ea9
    refine g_icmp_le (off := 7) (tgt := 38) (by decide +kernel) (by decide) ⟨by omega, by omega⟩ ⟨by omega, by omega⟩ (fun h31 => ?_) (fun h31 => ?_)
    · refine g_iconst (a := 0) (by decide +kernel) ?_
      refine g_goto (off := 13) (tgt := 52) (by decide +kernel) (by decide) ?_
      refine g_retI (by decide +kernel) rfl (Or.inr ⟨rfl, by decide⟩) ⟨by decide, by decide⟩ ?_
      refine ⟨?_, rfl⟩
      first
        | (rw [if_pos (by omega)])
        | (rw [if_neg (by omega)])
    · refine g_iconst (a := 1) (by decide +kernel) ?_
      refine g_goto (off := 17) (tgt := 52) (by decide +kernel) (by decide) ?_
      refine g_retI (by decide +kernel) rfl (Or.inr ⟨rfl, by decide⟩) ⟨by decide, by decide⟩ ?_
      refine ⟨?_, rfl⟩
      first
        | (rw [if_pos (by omega)])
        | (rw [if_neg (by omega)])
theorem w2_Md_laysStanding {G : zG} {X : zX} {n : Nat} {σ : zSt} {S : zSt} (hn : 220 ≤ n) (hS : zMc σ S) {post : zPost} {m0 : Nat} {sd : Nat → Int} (hm0 : m0 < zN S) (lm : S 1 m0 = 0) (hsd : zSm S sd m0) (kk : ∀ τ, (∀ a, a ≠ 208 → a ≠ 189 → τ a = σ a) → (∀ j, j ≠ 35 → τ 189 j = σ 189 j) → τ 189 35 = (zlm S m0 : Int) + 1 → zSm S (τ 208) (m0 + 1) → Go G X m_Md_laysStanding (2, 0, 0, 0, 0) n SH τ 88 [(0, vr G 189), (1, vi (m0 : Int))] [] post) : ∀ (m : Nat) (t : Nat) (x2 : Int) (τ : zSt), x2 = (t : Int) → (∀ a, a ≠ 208 → a ≠ 189 → τ a = σ a) → (∀ j, j ≠ 35 → τ 189 j = σ 189 j) → τ 189 35 = (zlm S m0 : Int) → (∀ j, j < t → τ 208 j = sd j) → (∀ j, t < j → j ≤ zlm S m0 → τ 208 j = sd (j - 1)) → (∀ i, t ≤ i → i < zlm S m0 → S 7 (9 * (sd i).toNat + 6) ≤ S 7 (9 * m0 + 6)) → t ≤ zlm S m0 → t < m → Go G X m_Md_laysStanding (2, 0, 0, 0, 0) n SH τ 31 [(0, vr G 189), (1, vi (m0 : Int)), (2, vi x2)] [] (post) := by
  intro m
  induction m with
  | zero => intro t x2 τ e2 t1 t5 t6 t2 t3 t4 hti hm; exact absurd hm (by omega)
  | succ m ih =>
    intro t x2 τ e2 t1 t5 t6 t2 t3 t4 hti hm
    have e0 := hS.n
    have e8 := hS.p
    have hN := hS.N
    have hz : zN S = (S 0 0).toNat := rfl
    subst e2
    have hT : zMc τ S := hS.moved (t1 190 (by decide) (by decide))
    have zl := zcnt_le (fun j => decide (S 1 j = 0)) m0
    have zl : zlm S m0 ≤ m0 := zl
    refine g_iload_n (i := 2) (by decide +kernel) rfl ?_
    refine g_if_le (off := 39) (tgt := 71) (by decide +kernel) (by decide) ⟨by omega, by omega⟩ (fun h32 => ?_) (fun h32 => ?_)
    · refine g_aload_n (i := 0) (by decide +kernel) rfl ?_
      refine g_getr f_Md_106 (by decide +kernel) (by omega) rfl rfl ?_
      refine g_iload_n (i := 2) (by decide +kernel) rfl ?_
      refine g_iload_n (i := 1) (by decide +kernel) rfl ?_
      first
        | (have t0 : t = 0 := by omega
           subst t0
           refine g_iast (j := 0) (by decide +kernel) (by omega) rfl rfl (by omega) (by decide) ?_
           refine g_aload_n (i := 0) (by decide +kernel) rfl ?_
           refine g_dup (by decide +kernel) rfl ?_
           refine g_geti f_Md_403 (by decide +kernel) (by omega) rfl rfl ?_
           refine g_iconst (a := 1) (by decide +kernel) ?_
           refine g_iadd (by decide +kernel) ?_
           refine g_puti f_Md_403 (by decide +kernel) (by omega) rfl rfl ?_
           refine g_less [0, 1] rfl (kk _ (fun a a1 a2 => by rw [zs_other a2, zs_other a1]; exact t1 a a1 a2) (fun j hj => by rw [zs_ne (fun y => hj y.2), zs_other (by decide)]; exact t5 j hj) (by rw [zs_eq, zs_other (by decide), t6]) ?_)
           rw [zs_other (by decide)]
           exact zSm_put (t := 0) hsd lm (by omega) t4 (Or.inl rfl) (fun i hi => by omega) (by rw [zs_eq]) (fun i h1 h2 => by rw [zs_row, zu_ne (by omega)]; exact t3 i h1 h2))
        | (refine g_iast (j := t + 1) (by decide +kernel) (by omega) rfl rfl (by omega) (by decide) ?_
           refine g_aload_n (i := 0) (by decide +kernel) rfl ?_
           refine g_dup (by decide +kernel) rfl ?_
           refine g_geti f_Md_403 (by decide +kernel) (by omega) rfl rfl ?_
           refine g_iconst (a := 1) (by decide +kernel) ?_
           refine g_iadd (by decide +kernel) ?_
           refine g_puti f_Md_403 (by decide +kernel) (by omega) rfl rfl ?_
           refine g_less [0, 1] rfl (kk _ (fun a a1 a2 => by rw [zs_other a2, zs_other a1]; exact t1 a a1 a2) (fun j hj => by rw [zs_ne (fun y => hj y.2), zs_other (by decide)]; exact t5 j hj) (by rw [zs_eq, zs_other (by decide), t6]) ?_)
           rw [zs_other (by decide)]
           have h48 : ¬ zAd S m0 y := h48
           refine zSm_put (t := t + 1) hsd lm (by omega) t4 (Or.inr ?_) (fun i hi => by rw [zs_row, zu_ne (by omega)]; exact t2 i hi) (by rw [zs_eq]) (fun i h1 h2 => by rw [zs_row, zu_ne (by omega)]; exact t3 i h1 h2)
           rw [Nat.add_sub_cancel, ey, Int.toNat_natCast]
           unfold zAd at h48
           omega)
    · obtain ⟨t, rfl⟩ : ∃ u, t = u + 1 := ⟨t - 1, by omega⟩
      have s2 := t2 t (by omega)
      have b := hsd t (by omega)
      obtain ⟨y, ey⟩ := Int.eq_ofNat_of_zero_le b.1
      rw [ey, Int.toNat_natCast] at b
      refine g_aload_n (i := 0) (by decide +kernel) rfl ?_
      refine g_iload_n (i := 1) (by decide +kernel) rfl ?_
      refine g_aload_n (i := 0) (by decide +kernel) rfl ?_
      refine g_getr f_Md_106 (by decide +kernel) (by omega) rfl rfl ?_
      refine g_iload_n (i := 2) (by decide +kernel) rfl ?_
      refine g_iconst (a := 1) (by decide +kernel) ?_
      refine g_isub (by decide +kernel) ?_
      refine g_iald (j := t) (by decide +kernel) (by omega) rfl (by push_cast; omega) (by omega) (by decide) ?_
      rw [s2, ey]
      refine g_cVI (st := _) (c_Md_standsAhead (x := m0) (y := y) hn hT hm0 (by omega)) k_Md_standsAhead l_Md_406 (by decide +kernel) (by omega) rfl rfl rfl rfl (Nat.le_of_ble_eq_true rfl) (by decide) ⟨by decide, by decide⟩ ?_
      rintro a9 σ9 ⟨ea9, hσ9⟩
      obtain rfl := hσ9.symm
      subst ea9
      refine g_if_eq (off := 23) (tgt := 71) (by decide +kernel) (by decide) zbr (fun h48 => ?_) (fun h48 => ?_)
      · have h48 := zb0.mp h48
        refine g_aload_n (i := 0) (by decide +kernel) rfl ?_
        refine g_getr f_Md_106 (by decide +kernel) (by omega) rfl rfl ?_
        refine g_iload_n (i := 2) (by decide +kernel) rfl ?_
        refine g_iload_n (i := 1) (by decide +kernel) rfl ?_
        first
          | (have t0 : t = 0 := by omega
             subst t0
             refine g_iast (j := 0) (by decide +kernel) (by omega) rfl rfl (by omega) (by decide) ?_
             refine g_aload_n (i := 0) (by decide +kernel) rfl ?_
             refine g_dup (by decide +kernel) rfl ?_
             refine g_geti f_Md_403 (by decide +kernel) (by omega) rfl rfl ?_
             refine g_iconst (a := 1) (by decide +kernel) ?_
             refine g_iadd (by decide +kernel) ?_
             refine g_puti f_Md_403 (by decide +kernel) (by omega) rfl rfl ?_
             refine g_less [0, 1] rfl (kk _ (fun a a1 a2 => by rw [zs_other a2, zs_other a1]; exact t1 a a1 a2) (fun j hj => by rw [zs_ne (fun y => hj y.2), zs_other (by decide)]; exact t5 j hj) (by rw [zs_eq, zs_other (by decide), t6]) ?_)
             rw [zs_other (by decide)]
             exact zSm_put (t := 0) hsd lm (by omega) t4 (Or.inl rfl) (fun i hi => by omega) (by rw [zs_eq]) (fun i h1 h2 => by rw [zs_row, zu_ne (by omega)]; exact t3 i h1 h2))
          | (refine g_iast (j := t + 1) (by decide +kernel) (by omega) rfl rfl (by omega) (by decide) ?_
             refine g_aload_n (i := 0) (by decide +kernel) rfl ?_
             refine g_dup (by decide +kernel) rfl ?_
             refine g_geti f_Md_403 (by decide +kernel) (by omega) rfl rfl ?_
             refine g_iconst (a := 1) (by decide +kernel) ?_
             refine g_iadd (by decide +kernel) ?_
             refine g_puti f_Md_403 (by decide +kernel) (by omega) rfl rfl ?_
             refine g_less [0, 1] rfl (kk _ (fun a a1 a2 => by rw [zs_other a2, zs_other a1]; exact t1 a a1 a2) (fun j hj => by rw [zs_ne (fun y => hj y.2), zs_other (by decide)]; exact t5 j hj) (by rw [zs_eq, zs_other (by decide), t6]) ?_)
             rw [zs_other (by decide)]
             have h48 : ¬ zAd S m0 y := h48
             refine zSm_put (t := t + 1) hsd lm (by omega) t4 (Or.inr ?_) (fun i hi => by rw [zs_row, zu_ne (by omega)]; exact t2 i hi) (by rw [zs_eq]) (fun i h1 h2 => by rw [zs_row, zu_ne (by omega)]; exact t3 i h1 h2)
             rw [Nat.add_sub_cancel, ey, Int.toNat_natCast]
             unfold zAd at h48
             omega)
      · have h48 := zb1.mp h48
        refine g_aload_n (i := 0) (by decide +kernel) rfl ?_
        refine g_getr f_Md_106 (by decide +kernel) (by omega) rfl rfl ?_
        refine g_iload_n (i := 2) (by decide +kernel) rfl ?_
        refine g_aload_n (i := 0) (by decide +kernel) rfl ?_
        refine g_getr f_Md_106 (by decide +kernel) (by omega) rfl rfl ?_
        refine g_iload_n (i := 2) (by decide +kernel) rfl ?_
        refine g_iconst (a := 1) (by decide +kernel) ?_
        refine g_isub (by decide +kernel) ?_
        refine g_iald (j := t) (by decide +kernel) (by omega) rfl (by push_cast; omega) (by omega) (by decide) ?_
        refine g_iast (j := t + 1) (by decide +kernel) (by omega) rfl rfl (by omega) (by decide) ?_
        refine g_iinc (i := 2) (b := -1) (L' := [(0, _), (1, _), (2, _)]) (by decide +kernel) rfl rfl rfl ?_
        refine g_goto (off := -37) (tgt := 31) (by decide +kernel) (by decide) ?_
        refine ih t _ _ (by push_cast; omega) (fun a a1 a2 => by rw [zs_other a1]; exact t1 a a1 a2) (fun j hj => by rw [zs_other (by decide)]; exact t5 j hj) (by rw [zs_other (by decide)]; exact t6) (fun j hj => by rw [zs_row, zu_ne (by omega)]; exact t2 j (by omega)) (fun j h1 h2 => ?_) (fun i h1 h2 => ?_) (by omega) (by omega)
        · by_cases e : j = t + 1
          · subst e; rw [zs_row, zu_eq]; simpa using s2
          · rw [zs_row, zu_ne e]; exact t3 j (by omega) h2
        · by_cases e : i = t
          · subst e
            rw [ey, Int.toNat_natCast]
            have h48 : zAd S m0 y := h48
            unfold zAd at h48
            omega
          · exact t4 i (by omega) h2
theorem w_Md_laysStanding {G : zG} {X : zX} {n : Nat} {σ : zSt} {S : zSt} (hn : 220 ≤ n) (hS : zMc σ S)  : ∀ (m : Nat) (i : Nat) (x1 : Int) (τ : zSt), x1 = (i : Int) → (∀ a, a ≠ 208 → a ≠ 189 → τ a = σ a) → (∀ j, j ≠ 35 → τ 189 j = σ 189 j) → τ 189 35 = (zlm S i : Int) → zSm S (τ 208) i → i ≤ zN S → zN S < i + m → Go G X m_Md_laysStanding (2, 0, 0, 0, 0) n SH τ 7 [(0, vr G 189), (1, vi x1)] [] (zV n SH (fun σ' => (∀ a, a ≠ 208 → a ≠ 189 → σ' a = σ a) ∧ (∀ j, j ≠ 35 → σ' 189 j = σ 189 j) ∧ σ' 189 35 = (zlvs S : Int) ∧ zStand S (σ' 208) (zlvs S))) := by
  intro m
  induction m with
  | zero => intro i x1 τ e1 t1 t5 t6 t2 hi hm; exact absurd hm (by omega)
  | succ m ih =>
    intro i x1 τ e1 t1 t5 t6 t2 hi hm
    have e0 := hS.n
    have e8 := hS.p
    have hN := hS.N
    have hz : zN S = (S 0 0).toNat := rfl
    subst e1
    have hT : zMc τ S := hS.moved (t1 190 (by decide) (by decide))
    have et := hT.n
    refine g_iload_n (i := 1) (by decide +kernel) rfl ?_
    refine g_aload_n (i := 0) (by decide +kernel) rfl ?_
    refine g_cVI (st := _) (c_Md_clips hn) k_Md_clips l_Md_148 (by decide +kernel) (by omega) rfl rfl rfl rfl (Nat.le_of_ble_eq_true rfl) (by decide) ⟨by decide, by decide⟩ ?_
    rintro a0 σ9 ⟨ea0, hσ9⟩
    obtain rfl := hσ9.symm
    subst ea0
    refine g_icmp_ge (off := 82) (tgt := 94) (by decide +kernel) (by decide) ⟨by omega, by omega⟩ ⟨by omega, by omega⟩ (fun h12 => ?_) (fun h12 => ?_)
    · refine g_retV (by decide +kernel) rfl ⟨by decide, by decide⟩ ?_
      rw [show i = zN S by omega] at t6 t2
      exact ⟨t1, t5, t6, t2⟩
    · have ki : i < zN S := by omega
      have kd := hT.kd ki
      have kr := hS.rg (show i < 12 by omega)
      refine g_aload_n (i := 0) (by decide +kernel) rfl ?_
      refine g_iload_n (i := 1) (by decide +kernel) rfl ?_
      refine g_cVI (st := _) (c_Md_kind (k := i) hn (by omega)) k_Md_kind l_Md_182 (by decide +kernel) (by omega) rfl rfl rfl rfl (Nat.le_of_ble_eq_true rfl) (by decide) ⟨by decide, by decide⟩ ?_
      rintro a9 σ9 ⟨ea9, hσ9⟩
      obtain rfl := hσ9.symm
      subst ea9
      refine g_if_eq (off := 6) (tgt := 26) (by decide +kernel) (by decide) ⟨by omega, by omega⟩ (fun h20 => ?_) (fun h20 => ?_)
      · refine g_aload_n (i := 0) (by decide +kernel) rfl ?_
        refine g_geti f_Md_403 (by decide +kernel) (by omega) rfl rfl ?_
        refine g_istore_n (i := 2) (L' := [(0, _), (1, _), (2, _)]) (by decide +kernel) rfl rfl ?_
        rw [t6]
        refine w2_Md_laysStanding hn hS ki (by omega) t2 (fun υ h1 h2 h3 h4 => ?_) (zlm S i + 1) (zlm S i) _ τ rfl t1 t5 t6 (fun _ _ => rfl) (fun j h1 h2 => by omega) (fun i h1 h2 => by omega) (by omega) (by omega)
        have ez : zlm S (i + 1) = zlm S i + 1 := zcnt_t (decide_eq_true (by omega))
        refine g_iinc (i := 1) (b := 1) (L' := [(0, _), (1, _)]) (by decide +kernel) rfl rfl rfl ?_
        refine g_goto (off := -84) (tgt := 7) (by decide +kernel) (by decide) ?_
        exact ih (i + 1) _ υ (by push_cast; rfl) h1 h2 (by rw [h3, ez]; push_cast; rfl) h4 (by omega) (by omega)
      · refine g_goto (off := 65) (tgt := 88) (by decide +kernel) (by decide) ?_
        refine g_iinc (i := 1) (b := 1) (L' := [(0, _), (1, _)]) (by decide +kernel) rfl rfl rfl ?_
        refine g_goto (off := -84) (tgt := 7) (by decide +kernel) (by decide) ?_
        exact ih (i + 1) _ τ (by push_cast; rfl) t1 t5 (by rw [t6, show zlm S (i + 1) = zlm S i from zcnt_f (decide_eq_false (by omega))]) (zSm_skip t2 (by omega)) (by omega) (by omega)
theorem c_Md_laysStanding {G : zG} {n : Nat} {σ : zSt} {S : zSt} (hn : 220 ≤ n) (hS : zMc σ S)  : Gm G y_Md_laysStanding m_Md_laysStanding 2 0 0 [vr G 189] n SH σ (zV n SH (fun σ' => (∀ a, a ≠ 208 → a ≠ 189 → σ' a = σ a) ∧ (∀ j, j ≠ 35 → σ' 189 j = σ 189 j) ∧ σ' 189 35 = (zlvs S : Int) ∧ zStand S (σ' 208) (zlvs S))) := by
  refine g_enter (L := [(0, _)]) (by decide) rfl rfl rfl (Nat.le_of_ble_eq_true rfl) (fun X => ?_)
  refine g_aload_n (i := 0) (by decide +kernel) rfl ?_
  refine g_iconst (a := 0) (by decide +kernel) ?_
  refine g_puti f_Md_403 (by decide +kernel) (by omega) rfl rfl ?_
  refine g_iconst (a := 0) (by decide +kernel) ?_
  refine g_istore_n (i := 1) (L' := [(0, _), (1, _)]) (by decide +kernel) rfl rfl ?_
  exact w_Md_laysStanding hn hS (zN S + 1) 0 _ _ rfl (fun a _ h => zs_other h) (fun j hj => zs_ne (fun y => hj y.2)) (zs_eq _ _ _ _) (fun i hi => absurd hi (Nat.not_lt_zero i)) (by omega) (by omega)
