theorem zSv_row (σ : zSt) (b r : Nat) (f : Nat → Int) : zSv (zrow σ (b + r) f) b = zrow (zSv σ b) r f := by
  funext a
  unfold zSv
  by_cases z : a = r
  · rw [z, zrow_eq, zrow_eq]
  · rw [zrow_ne z, zrow_ne (by omega)]
theorem zSv_app (τ : zSt) (x y p : Int) : zSv (zApp τ 11 x y p) 11 = zApp (zSv τ 11) 0 x y p := by
  unfold zApp
  simp only [Nat.zero_add]
  have e : ∀ v, zs τ 11 0 v = zs τ (11 + 0) 0 v := fun v => rfl
  rw [e, zSv_row, zSv_zs, zSv_zs, zSv_zs, zSv_zs, zSv_zs, zSv_zs, zSv_zs]
  rfl
theorem zApp_sm {A B : zSt} {x y p : Int} (h : zSame2 A B) : zSame2 (zApp A 0 x y p) (zApp B 0 x y p) := by
  have e0 : A 0 0 = B 0 0 := h.1.1
  obtain ⟨a0, a1, a2, a3, a4, a5, a6, a7, a8⟩ := zApp_r A x y p
  obtain ⟨b0, b1, b2, b3, b4, b5, b6, b7, b8⟩ := zApp_r B x y p
  have eN : zN A = zN B := by unfold zN; rw [e0]
  have u : ∀ r (v : Int) k, A r k = B r k → zu (A r) (zN B) v k = zu (B r) (zN B) v k := fun r v k e => by
    unfold zu
    split
    · rfl
    · exact e
  rw [eN] at a1 a2 a3 a4 a5 a6 a7
  refine ⟨⟨by rw [a0, b0, zu_eq, zu_eq, e0], by rw [a0, b0, zu_ne (by decide), zu_ne (by decide)]; exact h.1.2⟩, fun r h1 h2 k hk => ?_, fun k hk => ?_, fun i hi => by rw [a8 8 (by decide), a8 9 (by decide), b8 8 (by decide), b8 9 (by decide)]; exact h.2.2.2 i hi⟩
  · have e := h.2.1 r h1 h2 k hk
    rcases (by omega : r = 1 ∨ r = 2 ∨ r = 3 ∨ r = 4 ∨ r = 5 ∨ r = 6) with rfl | rfl | rfl | rfl | rfl | rfl
    · rw [a1, b1]; exact u _ _ _ e
    · rw [a2, b2]; exact u _ _ _ e
    · rw [a3, b3]; exact u _ _ _ e
    · rw [a4, b4]; exact u _ _ _ e
    · rw [a5, b5]; exact u _ _ _ e
    · rw [a6, b6]; exact u _ _ _ e
  · rw [a7, b7]
    unfold zmk
    split
    · rfl
    · exact h.2.2.1 k hk
theorem zApp_df {σ τ : zSt} {x y p : Int} (h : zDf σ τ) : zDf σ (zApp τ 11 x y p) := fun a ha => by
  unfold zApp
  rw [zrow_ne (by omega), zs_other (by omega), zs_other (by omega), zs_other (by omega), zs_other (by omega), zs_other (by omega), zs_other (by omega), zs_other (by omega)]
  exact h a ha
theorem zdep_le (ar : Nat → Int) : ∀ f x, zdep ar f x ≤ f
  | 0, _ => Nat.le_refl _
  | f + 1, x => by
    have st : zdep ar (f + 1) x = if x = -1 then 0 else zdep ar f (ar x.toNat) + 1 := rfl
    rw [st]
    split
    · omega
    · have := zdep_le ar f (ar x.toNat); omega
theorem c_Nc_add {G : zG} {n : Nat} {σ : zSt} {x y : Int} (hn : 189 ≤ n) (hc0 : zCl σ) (z1 : zr x) (z2 : zr y) : Gm G y_Nc_add m_Nc_add 6 0 0 [vr G 0, vi x, vi y] n SH σ (zI n SH (fun a σ' => zAcC σ σ' a (if (x < 0 ∨ 2 < x) then 1 else if ((σ 1 0 = 0 ∧ y ≠ -1) ∨ (σ 1 0 ≠ 0 ∧ ¬ (0 ≤ y ∧ y < σ 1 0))) then 2 else if (12 ≤ σ 1 0 ∨ 4 < (zdep (σ 3) 12 y : Int)) then 3 else if (y ≠ -1 ∧ σ 2 y.toNat = 0) then 5 else if 1999 < zlast (zApp (zSv σ 1) 0 x y (if y = -1 then 0 else (zcnt (fun j => decide (σ 3 j = y)) (σ 1 0).toNat : Int))) then 7 else 0) (σ 1 0) (zApp (zSv σ 1) 0 x y (if y = -1 then 0 else (zcnt (fun j => decide (σ 3 j = y)) (σ 1 0).toNat : Int))))) := by
  refine g_enter (L := [(0, _), (1, _), (2, _)]) (by decide) rfl rfl rfl (Nat.le_of_ble_eq_true rfl) (fun X => ?_)
  obtain ⟨ho, hR, hf, hD, hO, h951, h952⟩ := id hc0
  have hc := ho.1.1
  have hN : zN (zSv σ 1) = (σ 1 0).toNat := rfl
  have hg := ho.1.2.1
  obtain ⟨z1a, z1b⟩ := id z1
  obtain ⟨z2a, z2b⟩ := id z2
  have J103 : ¬ (x < 0 ∨ 2 < x) → ¬ ((σ 1 0 = 0 ∧ y ≠ -1) ∨ (σ 1 0 ≠ 0 ∧ ¬ (0 ≤ y ∧ y < σ 1 0))) → ¬ (12 ≤ σ 1 0 ∨ 4 < (zdep (σ 3) 12 y : Int)) → ¬ (y ≠ -1 ∧ σ 2 y.toNat = 0) → Go G X m_Nc_add (6, 0, 0, 0, 0) n SH σ 103 [(0, vr G 0), (1, vi x), (2, vi y)] [] (zI n SH (fun a σ' => zAcC σ σ' a (if (x < 0 ∨ 2 < x) then 1 else if ((σ 1 0 = 0 ∧ y ≠ -1) ∨ (σ 1 0 ≠ 0 ∧ ¬ (0 ≤ y ∧ y < σ 1 0))) then 2 else if (12 ≤ σ 1 0 ∨ 4 < (zdep (σ 3) 12 y : Int)) then 3 else if (y ≠ -1 ∧ σ 2 y.toNat = 0) then 5 else if 1999 < zlast (zApp (zSv σ 1) 0 x y (if y = -1 then 0 else (zcnt (fun j => decide (σ 3 j = y)) (σ 1 0).toNat : Int))) then 7 else 0) (σ 1 0) (zApp (zSv σ 1) 0 x y (if y = -1 then 0 else (zcnt (fun j => decide (σ 3 j = y)) (σ 1 0).toNat : Int))))) := by
    intro c1 c2 c3 c5
    refine g_aload_n (i := 0) (by decide +kernel) rfl ?_
    refine g_getr f_Nc_16 (by decide +kernel) (by omega) rfl rfl ?_
    refine g_aload_n (i := 0) (by decide +kernel) rfl ?_
    refine g_getr f_Nc_10 (by decide +kernel) (by omega) rfl rfl ?_
    refine g_cVV (st := _) (c_Sh_copyFrom (b := 11) (f := 1) hn sh_11 sh_1 (Or.inr (by omega))) k_Sh_copyFrom l_Nc_128 (by decide +kernel) (by omega) rfl rfl rfl rfl (Nat.le_of_ble_eq_true rfl) (by decide) ⟨by decide, by decide⟩ ?_
    rintro τ hC
    have gT : zGood τ 11 := zGood_v.mp (hC.sm.good (zGood_v.mpr ho.1))
    refine g_aload_n (i := 0) (by decide +kernel) rfl ?_
    refine g_aload_n (i := 0) (by decide +kernel) rfl ?_
    refine g_getr f_Nc_16 (by decide +kernel) (by omega) rfl rfl ?_
    refine g_iload_n (i := 1) (by decide +kernel) rfl ?_
    refine g_iload_n (i := 2) (by decide +kernel) rfl ?_
    have e0 : τ 11 0 = σ 1 0 := hC.1
    refine g_cVI (st := _) (c_Sh_append (b := 11) (x := x) (y := y) hn sh_11 gT (by omega) ⟨by omega, by omega⟩) k_Sh_append l_Nc_132 (by decide +kernel) (by omega) rfl rfl rfl rfl (Nat.le_of_ble_eq_true rfl) (by decide) ⟨by decide, by decide⟩ ?_
    rintro a9 υ ⟨ea9, hυ⟩
    have ec : zcnt (fun j => decide (τ (11 + 2) j = y)) (τ 11 0).toNat = zcnt (fun j => decide (σ 3 j = y)) (σ 1 0).toNat := by
      rw [e0]
      exact zcnt_congr (fun j hj => by rw [hC.2.2.1 2 (by decide) (by decide) j (by omega)])
    rw [ec] at hυ
    have hdf : zDf σ υ := by rw [hυ]; exact zApp_df hC.df
    have hs : zSame2 (zSv υ 11) (zApp (zSv σ 1) 0 x y (if y = -1 then 0 else (zcnt (fun j => decide (σ 3 j = y)) (σ 1 0).toNat : Int))) := by rw [hυ, zSv_app]; exact zApp_sm hC.sm
    have hF2 : zFin (zApp (zSv σ 1) 0 x y (if y = -1 then 0 else (zcnt (fun j => decide (σ 3 j = y)) (σ 1 0).toNat : Int))) := zApp_fin hf.1 (by omega) (by omega) (fun y0 => by omega) (fun y0 => ⟨by omega, by omega, fun y1 => c5 ⟨by omega, y1⟩⟩) (by show zdep (σ 3) 12 y ≤ 4; omega)
    refine g_cVI (st := _) (c_Nc_act hn (hdf.cl hc0 (hs.fin hF2)) (hs.fin hF2)) k_Nc_act l_Nc_114 (by decide +kernel) (by omega) rfl rfl rfl rfl (Nat.le_of_ble_eq_true rfl) (by decide) ⟨by decide, by decide⟩ ?_
    rintro a9 σ9 hA
    have hA := hA.base hdf hs
    rw [hs.last hF2] at hA
    refine g_retI (by decide +kernel) rfl (Or.inl rfl) ⟨by decide, by decide⟩ ?_
    rw [ea9, e0] at hA
    rw [if_neg c1, if_neg c2, if_neg c3, if_neg c5]
    exact hA
  have J50 : ¬ (x < 0 ∨ 2 < x) → ¬ ((σ 1 0 = 0 ∧ y ≠ -1) ∨ (σ 1 0 ≠ 0 ∧ ¬ (0 ≤ y ∧ y < σ 1 0))) → Go G X m_Nc_add (6, 0, 0, 0, 0) n SH σ 50 [(0, vr G 0), (1, vi x), (2, vi y)] [] (zI n SH (fun a σ' => zAcC σ σ' a (if (x < 0 ∨ 2 < x) then 1 else if ((σ 1 0 = 0 ∧ y ≠ -1) ∨ (σ 1 0 ≠ 0 ∧ ¬ (0 ≤ y ∧ y < σ 1 0))) then 2 else if (12 ≤ σ 1 0 ∨ 4 < (zdep (σ 3) 12 y : Int)) then 3 else if (y ≠ -1 ∧ σ 2 y.toNat = 0) then 5 else if 1999 < zlast (zApp (zSv σ 1) 0 x y (if y = -1 then 0 else (zcnt (fun j => decide (σ 3 j = y)) (σ 1 0).toNat : Int))) then 7 else 0) (σ 1 0) (zApp (zSv σ 1) 0 x y (if y = -1 then 0 else (zcnt (fun j => decide (σ 3 j = y)) (σ 1 0).toNat : Int))))) := by
    intro c1 c2
    have zd : zdep (σ 3) 12 y ≤ 12 := zdep_le _ _ _
    refine g_aload_n (i := 0) (by decide +kernel) rfl ?_
    refine g_getr f_Nc_10 (by decide +kernel) (by omega) rfl rfl ?_
    refine g_geti f_Nc_111 (by decide +kernel) (by omega) rfl rfl ?_
    refine g_bipush (a := 12) (by decide +kernel) (by decide) ?_
    refine g_icmp_ge (off := 15) (tgt := 74) (by decide +kernel) (by decide) ⟨by omega, by omega⟩ ⟨by omega, by omega⟩ (fun h59 => ?_) (fun h59 => ?_)
    · refine g_aload_n (i := 0) (by decide +kernel) rfl ?_
      refine g_iconst (a := 3) (by decide +kernel) ?_
      refine g_cVI (st := _) (c_Nc_refuse hn) k_Nc_refuse l_Nc_97 (by decide +kernel) (by omega) rfl rfl rfl rfl (Nat.le_of_ble_eq_true rfl) (by decide) ⟨by decide, by decide⟩ ?_
      rintro a9 σ9 ⟨ea9, hσ9⟩
      obtain rfl := ea9.symm
      subst hσ9
      refine g_retI (by decide +kernel) rfl (Or.inl rfl) ⟨by decide, by decide⟩ ?_
      exact zAcC.no hc0 (by rw [if_neg c1, if_neg c2, if_pos (by omega)]) (by decide)
    · refine g_aload_n (i := 0) (by decide +kernel) rfl ?_
      refine g_getr f_Nc_10 (by decide +kernel) (by omega) rfl rfl ?_
      refine g_iload_n (i := 2) (by decide +kernel) rfl ?_
      refine g_cVI (st := _) (c_Sh_howManyAroundNew (b := 1) (x := y) hn sh_1 ho.1 ⟨by omega, by omega⟩) k_Sh_howManyAroundNew l_Nc_121 (by decide +kernel) (by omega) rfl rfl rfl rfl (Nat.le_of_ble_eq_true rfl) (by decide) ⟨by decide, by decide⟩ ?_
      rintro a9 σ9 ⟨ea9, hσ9⟩
      obtain rfl := hσ9.symm
      have ea9 : a9 = (zdep (σ 3) 12 y : Int) := ea9
      refine g_iconst (a := 4) (by decide +kernel) ?_
      refine g_icmp_le (off := 9) (tgt := 80) (by decide +kernel) (by decide) ⟨by omega, by omega⟩ ⟨by omega, by omega⟩ (fun h71 => ?_) (fun h71 => ?_)
      · refine g_iload_n (i := 2) (by decide +kernel) rfl ?_
        refine g_iconst (a := -1) (by decide +kernel) ?_
        refine g_icmp_eq (off := 21) (tgt := 103) (by decide +kernel) (by decide) ⟨by omega, by omega⟩ ⟨by omega, by omega⟩ (fun h82 => ?_) (fun h82 => ?_)
        · exact J103 c1 c2 (by omega) (fun y => by omega)
        · have k2 : 0 ≤ σ 2 y.toNat ∧ σ 2 y.toNat ≤ 2 := (hg y.toNat (by omega)).1
          refine g_aload_n (i := 0) (by decide +kernel) rfl ?_
          refine g_getr f_Nc_10 (by decide +kernel) (by omega) rfl rfl ?_
          refine g_getr f_Nc_124 (by decide +kernel) (by omega) rfl rfl ?_
          refine g_iload_n (i := 2) (by decide +kernel) rfl ?_
          refine g_iald (j := y.toNat) (by decide +kernel) (by omega) rfl (by omega) (by omega) (by decide) ?_
          refine g_if_ne (off := 9) (tgt := 103) (by decide +kernel) (by decide) ⟨by omega, by omega⟩ (fun h94 => ?_) (fun h94 => ?_)
          · exact J103 c1 c2 (by omega) (fun y => by omega)
          · refine g_aload_n (i := 0) (by decide +kernel) rfl ?_
            refine g_iconst (a := 5) (by decide +kernel) ?_
            refine g_cVI (st := _) (c_Nc_refuse hn) k_Nc_refuse l_Nc_97 (by decide +kernel) (by omega) rfl rfl rfl rfl (Nat.le_of_ble_eq_true rfl) (by decide) ⟨by decide, by decide⟩ ?_
            rintro a9 σ9 ⟨ea9, hσ9⟩
            obtain rfl := ea9.symm
            subst hσ9
            refine g_retI (by decide +kernel) rfl (Or.inl rfl) ⟨by decide, by decide⟩ ?_
            exact zAcC.no hc0 (by rw [if_neg c1, if_neg c2, if_neg (by omega), if_pos ⟨by omega, by omega⟩]) (by decide)
      · refine g_aload_n (i := 0) (by decide +kernel) rfl ?_
        refine g_iconst (a := 3) (by decide +kernel) ?_
        refine g_cVI (st := _) (c_Nc_refuse hn) k_Nc_refuse l_Nc_97 (by decide +kernel) (by omega) rfl rfl rfl rfl (Nat.le_of_ble_eq_true rfl) (by decide) ⟨by decide, by decide⟩ ?_
        rintro a9 σ9 ⟨ea9, hσ9⟩
        obtain rfl := ea9.symm
        subst hσ9
        refine g_retI (by decide +kernel) rfl (Or.inl rfl) ⟨by decide, by decide⟩ ?_
        exact zAcC.no hc0 (by rw [if_neg c1, if_neg c2, if_pos (by omega)]) (by decide)
  refine g_iload_n (i := 1) (by decide +kernel) rfl ?_
  refine g_if_lt (off := 8) (tgt := 9) (by decide +kernel) (by decide) ⟨by omega, by omega⟩ (fun h1 => ?_) (fun h1 => ?_)
  · refine g_aload_n (i := 0) (by decide +kernel) rfl ?_
    refine g_iconst (a := 1) (by decide +kernel) ?_
    refine g_cVI (st := _) (c_Nc_refuse hn) k_Nc_refuse l_Nc_97 (by decide +kernel) (by omega) rfl rfl rfl rfl (Nat.le_of_ble_eq_true rfl) (by decide) ⟨by decide, by decide⟩ ?_
    rintro a9 σ9 ⟨ea9, hσ9⟩
    obtain rfl := ea9.symm
    subst hσ9
    refine g_retI (by decide +kernel) rfl (Or.inl rfl) ⟨by decide, by decide⟩ ?_
    exact zAcC.no hc0 (if_pos (by omega)) (by decide)
  · refine g_iload_n (i := 1) (by decide +kernel) rfl ?_
    refine g_iconst (a := 2) (by decide +kernel) ?_
    refine g_icmp_le (off := 9) (tgt := 15) (by decide +kernel) (by decide) ⟨by omega, by omega⟩ ⟨by omega, by omega⟩ (fun h6 => ?_) (fun h6 => ?_)
    · refine g_aload_n (i := 0) (by decide +kernel) rfl ?_
      refine g_getr f_Nc_10 (by decide +kernel) (by omega) rfl rfl ?_
      refine g_geti f_Nc_111 (by decide +kernel) (by omega) rfl rfl ?_
      refine g_if_ne (off := 11) (tgt := 33) (by decide +kernel) (by decide) ⟨by omega, by omega⟩ (fun h22 => ?_) (fun h22 => ?_)
      · refine g_aload_n (i := 0) (by decide +kernel) rfl ?_
        refine g_getr f_Nc_10 (by decide +kernel) (by omega) rfl rfl ?_
        refine g_iload_n (i := 2) (by decide +kernel) rfl ?_
        refine g_cVI (st := _) (c_Sh_has (b := 1) hn sh_1 z2 ⟨hc.1, hc.2.1⟩) k_Sh_has l_Nc_117 (by decide +kernel) (by omega) rfl rfl rfl rfl (Nat.le_of_ble_eq_true rfl) (by decide) ⟨by decide, by decide⟩ ?_
        rintro a σ9 ⟨ea, hσ⟩
        obtain rfl := hσ.symm
        subst ea
        refine g_if_ne (off := 9) (tgt := 50) (by decide +kernel) (by decide) zbr (fun h41 => ?_) (fun h41 => ?_)
        · have h41 := zb1.mp h41
          exact J50 (by omega) (by omega)
        · have h41 := zb0.mp h41
          refine g_aload_n (i := 0) (by decide +kernel) rfl ?_
          refine g_iconst (a := 2) (by decide +kernel) ?_
          refine g_cVI (st := _) (c_Nc_refuse hn) k_Nc_refuse l_Nc_97 (by decide +kernel) (by omega) rfl rfl rfl rfl (Nat.le_of_ble_eq_true rfl) (by decide) ⟨by decide, by decide⟩ ?_
          rintro a9 σ9 ⟨ea9, hσ9⟩
          obtain rfl := ea9.symm
          subst hσ9
          refine g_retI (by decide +kernel) rfl (Or.inl rfl) ⟨by decide, by decide⟩ ?_
          exact zAcC.no hc0 (by rw [if_neg (by omega), if_pos (by omega)]) (by decide)
      · refine g_iload_n (i := 2) (by decide +kernel) rfl ?_
        refine g_iconst (a := -1) (by decide +kernel) ?_
        refine g_icmp_eq (off := 23) (tgt := 50) (by decide +kernel) (by decide) ⟨by omega, by omega⟩ ⟨by omega, by omega⟩ (fun h27 => ?_) (fun h27 => ?_)
        · exact J50 (by omega) (by omega)
        · refine g_goto (off := 14) (tgt := 44) (by decide +kernel) (by decide) ?_
          refine g_aload_n (i := 0) (by decide +kernel) rfl ?_
          refine g_iconst (a := 2) (by decide +kernel) ?_
          refine g_cVI (st := _) (c_Nc_refuse hn) k_Nc_refuse l_Nc_97 (by decide +kernel) (by omega) rfl rfl rfl rfl (Nat.le_of_ble_eq_true rfl) (by decide) ⟨by decide, by decide⟩ ?_
          rintro a9 σ9 ⟨ea9, hσ9⟩
          obtain rfl := ea9.symm
          subst hσ9
          refine g_retI (by decide +kernel) rfl (Or.inl rfl) ⟨by decide, by decide⟩ ?_
          exact zAcC.no hc0 (by rw [if_neg (by omega), if_pos (by omega)]) (by decide)
    · refine g_aload_n (i := 0) (by decide +kernel) rfl ?_
      refine g_iconst (a := 1) (by decide +kernel) ?_
      refine g_cVI (st := _) (c_Nc_refuse hn) k_Nc_refuse l_Nc_97 (by decide +kernel) (by omega) rfl rfl rfl rfl (Nat.le_of_ble_eq_true rfl) (by decide) ⟨by decide, by decide⟩ ?_
      rintro a9 σ9 ⟨ea9, hσ9⟩
      obtain rfl := ea9.symm
      subst hσ9
      refine g_retI (by decide +kernel) rfl (Or.inl rfl) ⟨by decide, by decide⟩ ?_
      exact zAcC.no hc0 (if_pos (by omega)) (by decide)
theorem zwi_cg {ar ar' : Nat → Int} {q N : Nat} (h : ∀ k, k < N → ar' k = ar k) (h1 : ∀ k, k < N → ar k < k) (h0 : ∀ k, k < N → -1 ≤ ar k) : ∀ f k, k < N → zwi ar' q f k = zwi ar q f k
  | 0, _, _ => rfl
  | f + 1, k, hk => by
    rw [zwi_s, zwi_s, h k hk]
    by_cases z : k = q
    · rw [if_pos z, if_pos z]
    · rw [if_neg z, if_neg z]
      by_cases y : ar k = -1
      · rw [if_pos y, if_pos y]
      · rw [if_neg y, if_neg y]
        have a := h1 k hk
        have b := h0 k hk
        exact zwi_cg h h1 h0 f _ (by omega)
theorem zLos_sm {A B T : zSt} {d r : Nat → Nat} {k : Nat} (h : zSame2 A B) (g : zGood B 0) (hv : zVal B d r) (hk : k < zN B) (hno : ∀ i, i < zN B → zby (B 4 i) = false → B 5 i = -1) (hL : zLos A T k) : zLos B T k := by
  have e0 : A 0 0 = B 0 0 := h.1.1
  have eN : zN A = zN B := by unfold zN; rw [e0]
  have hN := g.1
  have hz : zN B = (B 0 0).toNat := rfl
  have v1 := hv.1.1
  have r := h.2.1
  have K : ∀ i, i < zN B → zKe A k i = zKe B k i := fun i hi => by
    unfold zKe
    rw [zwi_cg (N := zN B) (fun j hj => r 2 (by decide) (by decide) j (by omega)) (fun j hj => (hv.2.1 j hj).1) (fun j hj => (hv.2.1 j hj).2.1) 12 i hi]
  have C : ∀ i, i ≤ zN B → zcnt (zKe A k) i = zcnt (zKe B k) i := fun i hi => zcnt_congr (fun j hj => K j (by omega))
  obtain ⟨⟨h0, h8⟩, h1, h2⟩ := hL
  refine ⟨⟨by rw [h0, eN, C _ (Nat.le_refl _)], by rw [h8]; exact h.1.2⟩, fun i hi hK => ?_, fun i hi => ?_⟩
  · have x := h1 i (by omega) (by rw [K i hi]; exact hK)
    rw [C i (by omega)] at x
    have t := hv.2.1 i hi
    have i12 : i < 12 := by omega
    have k12 : k < 12 := by omega
    obtain ⟨x1, x2, x3, x4, x5, x6, x7⟩ := x
    have pl : zpl A 0 k i = zpl B 0 k i := by
      unfold zpl
      simp only [Nat.zero_add]
      rw [r 2 (by decide) (by decide) i i12, r 2 (by decide) (by decide) k k12, r 3 (by decide) (by decide) i i12, r 3 (by decide) (by decide) k k12]
    rw [r 1 (by decide) (by decide) i i12] at x1
    rw [r 2 (by decide) (by decide) i i12] at x2
    rw [pl] at x3
    rw [r 4 (by decide) (by decide) i i12] at x4
    rw [r 5 (by decide) (by decide) i i12] at x5
    rw [r 6 (by decide) (by decide) i i12] at x6
    have g5 := (g.2.1 i i12).2.2.2.2.1
    refine ⟨x1, ?_, x3, x4, ?_, x6, fun u hu => by rw [x7 u hu, h.2.2.1 _ (by omega)]⟩
    · rw [x2]
      by_cases z : B 2 i = -1
      · rw [if_pos z, if_pos z]
      · rw [if_neg z, if_neg z, C _ (by omega)]
    · rw [x5]
      by_cases z : B 5 i = -1
      · rw [if_pos z, if_pos z]
      · rw [if_neg z, if_neg z]
        have o : B 5 i < zN B := by
          by_cases b : zby (B 4 i) = true
          · have := (hv.oth hi b); omega
          · exact absurd (hno i hi (Bool.eq_false_iff.mpr b)) z
        rw [C _ (by omega)]
  · have p := h.2.2.2 i (by omega)
    have q := h2 i (by rw [h.1.2]; exact hi)
    rw [q.1, q.2]; exact p
theorem zDrop_v {τ υ : zSt} {k : Nat} (h : zDrop τ υ 11 k) : zDrop (zSv τ 11) (zSv υ 11) 0 k := by
  obtain ⟨h1, h2, h3, h4⟩ := h
  refine ⟨fun i hi e => ?_, fun j hj => ?_, h3, fun a ha => h4 (11 + a) (by omega)⟩
  · have x := h1 i hi (by simpa only [zSv, Nat.zero_add] using e)
    unfold zpl zSv at *
    simpa only [Nat.zero_add, Nat.add_zero] using x
  · have x := h2 j (by simpa only [zSv, Nat.zero_add] using hj)
    unfold zpl zSv at *
    simpa only [Nat.zero_add, Nat.add_zero] using x
theorem zDrop.df {σ τ υ : zSt} {k : Nat} (hf : zDf σ τ) (h : zDrop τ υ 11 k) : zDf σ υ := fun a ha => by
  by_cases z : a < 11
  · rw [h.2.2.2 a (by omega)]; exact hf a ha
  · rw [h.2.2.2 a (by omega)]; exact hf a ha
theorem c_Nc_lose {G : zG} {n : Nat} {σ : zSt} {c : Int} (hn : 189 ≤ n) (hc0 : zCl σ) (z1 : zr c) : Gm G y_Nc_lose m_Nc_lose 6 0 0 [vr G 0, vi c] n SH σ (zI n SH (fun a σ' => ∃ S' : zSt, (((if ¬ (0 ≤ c ∧ c < σ 1 0) then 2 else if c = 0 ∧ 1 < σ 1 0 then 5 else if zany (fun j => zby (σ 5 j) && decide (σ 6 j = c)) (σ 1 0).toNat = true then 6 else 0) : Int) = 0 → zLos (zSv σ 1) S' c.toNat ∧ zFine S') ∧ zAcC σ σ' a (if ¬ (0 ≤ c ∧ c < σ 1 0) then 2 else if c = 0 ∧ 1 < σ 1 0 then 5 else if zany (fun j => zby (σ 5 j) && decide (σ 6 j = c)) (σ 1 0).toNat = true then 6 else 0) (S' 0 0) S')) := by
  refine g_enter (L := [(0, _), (1, _)]) (by decide) rfl rfl rfl (Nat.le_of_ble_eq_true rfl) (fun X => ?_)
  obtain ⟨ho, hR, hf, hD, hO, h951, h952⟩ := id hc0
  have hc := ho.1.1
  have hN : zN (zSv σ 1) = (σ 1 0).toNat := rfl
  have hg := ho.1.2.1
  obtain ⟨z1a, z1b⟩ := id z1
  have J38 : (0 ≤ c ∧ c < σ 1 0) → ¬ (c = 0 ∧ 1 < σ 1 0) → Go G X m_Nc_lose (6, 0, 0, 0, 0) n SH σ 38 [(0, vr G 0), (1, vi c)] [] (zI n SH (fun a σ' => ∃ S' : zSt, (((if ¬ (0 ≤ c ∧ c < σ 1 0) then 2 else if c = 0 ∧ 1 < σ 1 0 then 5 else if zany (fun j => zby (σ 5 j) && decide (σ 6 j = c)) (σ 1 0).toNat = true then 6 else 0) : Int) = 0 → zLos (zSv σ 1) S' c.toNat ∧ zFine S') ∧ zAcC σ σ' a (if ¬ (0 ≤ c ∧ c < σ 1 0) then 2 else if c = 0 ∧ 1 < σ 1 0 then 5 else if zany (fun j => zby (σ 5 j) && decide (σ 6 j = c)) (σ 1 0).toNat = true then 6 else 0) (S' 0 0) S')) := by
    intro c2 c5
    refine g_aload_n (i := 0) (by decide +kernel) rfl ?_
    refine g_getr f_Nc_10 (by decide +kernel) (by omega) rfl rfl ?_
    refine g_iload_n (i := 1) (by decide +kernel) rfl ?_
    refine g_cVI (st := _) (c_Sh_startsAnother (b := 1) (k := c) hn sh_1 ho.1 z1) k_Sh_startsAnother l_Nc_136 (by decide +kernel) (by omega) rfl rfl rfl rfl (Nat.le_of_ble_eq_true rfl) (by decide) ⟨by decide, by decide⟩ ?_
    rintro a σ9 ⟨ea, hσ⟩
    obtain rfl := hσ.symm
    subst ea
    refine g_if_eq (off := 10) (tgt := 56) (by decide +kernel) (by decide) zbr (fun h46 => ?_) (fun h46 => ?_)
    · have h46 := zb0.mp h46
      refine g_aload_n (i := 0) (by decide +kernel) rfl ?_
      refine g_getr f_Nc_16 (by decide +kernel) (by omega) rfl rfl ?_
      refine g_aload_n (i := 0) (by decide +kernel) rfl ?_
      refine g_getr f_Nc_10 (by decide +kernel) (by omega) rfl rfl ?_
      refine g_cVV (st := _) (c_Sh_copyFrom (b := 11) (f := 1) hn sh_11 sh_1 (Or.inr (by omega))) k_Sh_copyFrom l_Nc_128 (by decide +kernel) (by omega) rfl rfl rfl rfl (Nat.le_of_ble_eq_true rfl) (by decide) ⟨by decide, by decide⟩ ?_
      rintro τ hC
      have gT : zGood τ 11 := zGood_v.mp (hC.sm.good (zGood_v.mpr ho.1))
      refine g_aload_n (i := 0) (by decide +kernel) rfl ?_
      refine g_getr f_Nc_16 (by decide +kernel) (by omega) rfl rfl ?_
      refine g_iload_n (i := 1) (by decide +kernel) rfl ?_
      have h46 : ¬ zany (fun j => zby (σ 5 j) && decide (σ 6 j = c)) (σ 1 0).toNat = true := h46
      obtain ⟨k, rfl⟩ := Int.eq_ofNat_of_zero_le c2.1
      have e0 : τ 11 0 = σ 1 0 := hC.1
      have hV := hf.1.2.1
      obtain ⟨⟨d, r, hv⟩, -⟩ := id hV
      have r2 : ∀ j, j < 12 → τ (11 + 2) j = σ 3 j := fun j hj => hC.2.2.1 2 (by decide) (by decide) j hj
      have r5 : ∀ j, j < 12 → τ (11 + 5) j = σ 6 j := fun j hj => hC.2.2.1 5 (by decide) (by decide) j hj
      have tr : zTree τ 11 := fun j hj => by
        rw [e0] at hj
        rw [r2 j (by omega)]
        exact (hv.2.1 j hj).1
      have ot : ∀ j, j < (τ 11 0).toNat → τ (11 + 5) j < τ 11 0 := fun j hj => by
        rw [e0] at hj ⊢
        rw [r5 j (by omega)]
        by_cases b : zby (σ 5 j) = true
        · have t := (hv.oth (k := j) hj b).2.1
          have t : (σ 6 j).toNat < zN (zSv σ 1) := t
          omega
        · have t := (hf.1.2.2 j hj).2 (Bool.eq_false_iff.mpr b)
          have t : σ 6 j = -1 := t
          omega
      refine g_cVV (st := _) (c_Sh_drop (b := 11) (k := k) hn sh_11 gT tr (by omega) ot) k_Sh_drop l_Nc_139 (by decide +kernel) (by omega) rfl rfl rfl rfl (Nat.le_of_ble_eq_true rfl) (by decide) ⟨by decide, by decide⟩ ?_
      rintro υ hυ
      have hdf : zDf σ υ := hυ.df hC.df
      have hs : zSame2 (zSv υ 11) (zSv υ 11) := zSame2.rf _
      have fT : zFin (zSv τ 11) := hC.sm.fin hf.1
      have eNt : zN (zSv τ 11) = (σ 1 0).toNat := by unfold zN; show (τ 11 0).toNat = _; rw [e0]
      have no : ∀ i, i < (σ 1 0).toNat → zby (σ 5 i) = true → σ 6 i ≠ (k : Int) := fun i hi b y => h46 (zany_t (i := i) (by rw [b, decide_eq_true y]; rfl) hi)
      have F2 := zLos_fin fT (k := k) (by omega) (fun y => by omega) (fun i hi b => by
          rw [eNt] at hi
          have b : zby (τ (11 + 4) i) = true := b
          rw [hC.2.2.1 4 (by decide) (by decide) i (by omega)] at b
          show τ (11 + 5) i ≠ _
          rw [r5 i (by omega)]
          exact no i hi b) (zDrop_v hυ)
      have hF2 := F2.1
      have los : zLos (zSv σ 1) (zSv υ 11) k := zLos_sm hC.sm hf.1.1 hv (by omega) (fun i hi => (hf.1.2.2 i hi).2) F2.2.1
      have ls := F2.2.2
      rw [hC.sm.last hf.1] at ls
      refine g_aload_n (i := 0) (by decide +kernel) rfl ?_
      refine g_aload_n (i := 0) (by decide +kernel) rfl ?_
      refine g_getr f_Nc_16 (by decide +kernel) (by omega) rfl rfl ?_
      refine g_geti f_Nc_111 (by decide +kernel) (by omega) rfl rfl ?_
      refine g_cVI (st := _) (c_Nc_act hn (hdf.cl hc0 (hs.fin hF2)) (hs.fin hF2)) k_Nc_act l_Nc_114 (by decide +kernel) (by omega) rfl rfl rfl rfl (Nat.le_of_ble_eq_true rfl) (by decide) ⟨by decide, by decide⟩ ?_
      rintro a9 σ9 hA
      have hA := hA.base hdf hs
      rw [hs.last hF2] at hA
      refine g_retI (by decide +kernel) rfl (Or.inl rfl) ⟨by decide, by decide⟩ ?_
      have l := hf.2
      refine ⟨zSv υ 11, fun _ => ⟨by rw [Int.toNat_natCast]; exact los, hF2, by omega⟩, ?_⟩
      have e : (if ¬ (0 ≤ (k : Int) ∧ (k : Int) < σ 1 0) then 2 else if (k : Int) = 0 ∧ 1 < σ 1 0 then 5 else if zany (fun j => zby (σ 5 j) && decide (σ 6 j = (k : Int))) (σ 1 0).toNat = true then 6 else 0) = (0 : Int) := by rw [if_neg (fun y => y c2), if_neg c5]; exact if_neg h46
      rw [if_neg (by omega)] at hA
      exact hA.ok e
    · have h46 := zb1.mp h46
      refine g_aload_n (i := 0) (by decide +kernel) rfl ?_
      refine g_bipush (a := 6) (by decide +kernel) (by decide) ?_
      refine g_cVI (st := _) (c_Nc_refuse hn) k_Nc_refuse l_Nc_97 (by decide +kernel) (by omega) rfl rfl rfl rfl (Nat.le_of_ble_eq_true rfl) (by decide) ⟨by decide, by decide⟩ ?_
      rintro a9 σ9 ⟨ea9, hσ9⟩
      obtain rfl := ea9.symm
      subst hσ9
      refine g_retI (by decide +kernel) rfl (Or.inl rfl) ⟨by decide, by decide⟩ ?_
      have e : (if ¬ (0 ≤ c ∧ c < σ 1 0) then 2 else if c = 0 ∧ 1 < σ 1 0 then 5 else if zany (fun j => zby (σ 5 j) && decide (σ 6 j = c)) (σ 1 0).toNat = true then 6 else 0) = (6 : Int) := by rw [if_neg (fun y => y c2), if_neg c5]; exact if_pos h46
      exact ⟨σ, fun y => by rw [e] at y; exact absurd y (by decide), zAcC.no hc0 e (by decide)⟩
  refine g_aload_n (i := 0) (by decide +kernel) rfl ?_
  refine g_getr f_Nc_10 (by decide +kernel) (by omega) rfl rfl ?_
  refine g_iload_n (i := 1) (by decide +kernel) rfl ?_
  refine g_cVI (st := _) (c_Sh_has (b := 1) hn sh_1 z1 ⟨hc.1, hc.2.1⟩) k_Sh_has l_Nc_117 (by decide +kernel) (by omega) rfl rfl rfl rfl (Nat.le_of_ble_eq_true rfl) (by decide) ⟨by decide, by decide⟩ ?_
  rintro a σ9 ⟨ea, hσ⟩
  obtain rfl := hσ.symm
  subst ea
  refine g_if_ne (off := 9) (tgt := 17) (by decide +kernel) (by decide) zbr (fun h8 => ?_) (fun h8 => ?_)
  · have h8 := zb1.mp h8
    refine g_iload_n (i := 1) (by decide +kernel) rfl ?_
    refine g_if_ne (off := 20) (tgt := 38) (by decide +kernel) (by decide) ⟨by omega, by omega⟩ (fun h18 => ?_) (fun h18 => ?_)
    · exact J38 h8 (by omega)
    · refine g_aload_n (i := 0) (by decide +kernel) rfl ?_
      refine g_getr f_Nc_10 (by decide +kernel) (by omega) rfl rfl ?_
      refine g_geti f_Nc_111 (by decide +kernel) (by omega) rfl rfl ?_
      refine g_iconst (a := 1) (by decide +kernel) ?_
      refine g_icmp_le (off := 9) (tgt := 38) (by decide +kernel) (by decide) ⟨by omega, by omega⟩ ⟨by omega, by omega⟩ (fun h29 => ?_) (fun h29 => ?_)
      · exact J38 h8 (by omega)
      · refine g_aload_n (i := 0) (by decide +kernel) rfl ?_
        refine g_iconst (a := 5) (by decide +kernel) ?_
        refine g_cVI (st := _) (c_Nc_refuse hn) k_Nc_refuse l_Nc_97 (by decide +kernel) (by omega) rfl rfl rfl rfl (Nat.le_of_ble_eq_true rfl) (by decide) ⟨by decide, by decide⟩ ?_
        rintro a9 σ9 ⟨ea9, hσ9⟩
        obtain rfl := ea9.symm
        subst hσ9
        refine g_retI (by decide +kernel) rfl (Or.inl rfl) ⟨by decide, by decide⟩ ?_
        have e : (if ¬ (0 ≤ c ∧ c < σ 1 0) then 2 else if c = 0 ∧ 1 < σ 1 0 then 5 else if zany (fun j => zby (σ 5 j) && decide (σ 6 j = c)) (σ 1 0).toNat = true then 6 else 0) = (5 : Int) := by rw [if_neg (fun y => y h8), if_pos (by omega)]
        exact ⟨σ, fun y => by rw [e] at y; exact absurd y (by decide), zAcC.no hc0 e (by decide)⟩
  · have h8 := zb0.mp h8
    refine g_aload_n (i := 0) (by decide +kernel) rfl ?_
    refine g_iconst (a := 2) (by decide +kernel) ?_
    refine g_cVI (st := _) (c_Nc_refuse hn) k_Nc_refuse l_Nc_97 (by decide +kernel) (by omega) rfl rfl rfl rfl (Nat.le_of_ble_eq_true rfl) (by decide) ⟨by decide, by decide⟩ ?_
    rintro a9 σ9 ⟨ea9, hσ9⟩
    obtain rfl := ea9.symm
    subst hσ9
    refine g_retI (by decide +kernel) rfl (Or.inl rfl) ⟨by decide, by decide⟩ ?_
    have e : (if ¬ (0 ≤ c ∧ c < σ 1 0) then 2 else if c = 0 ∧ 1 < σ 1 0 then 5 else if zany (fun j => zby (σ 5 j) && decide (σ 6 j = c)) (σ 1 0).toNat = true then 6 else 0) = (2 : Int) := by rw [if_pos h8]
    exact ⟨σ, fun y => by rw [e] at y; exact absurd y (by decide), zAcC.no hc0 e (by decide)⟩
