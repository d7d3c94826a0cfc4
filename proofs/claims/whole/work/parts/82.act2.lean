section AC2
variable {σ τ ψ A B : zSt} {a w w' v c : Int} {S' : zSt}
theorem zSame2.last (h : zSame2 A B) (g : zFin B) : zlast A = zlast B := zEqv.last g.2.1 (h.eqv g.1) g.1.1.1
theorem zAcC.no (hc : zCl σ) (hw : w = c) (h0 : c ≠ 0) : zAcC σ (zs σ 0 10 c) (-1) w v S' := Or.inl ⟨by rw [hw]; exact h0, rfl, by rw [hw]; exact zCr_no hc⟩
theorem zAcC.ok (h : zAcC σ ψ a w' v S') (hw : w = w') : zAcC σ ψ a w v S' := by rw [hw]; exact h
/-- whether a mark can be so -/
abbrev zmOk (w v : Int) : Prop := 0 ≤ w ∧ w < 9 ∧ zTab 0 w.toNat ≤ v ∧ v ≤ zTab 1 w.toNat
theorem zTab_r {q : Nat} (h : q < 9) : (0 ≤ zTab 0 q ∧ zTab 0 q ≤ 1) ∧ (0 ≤ zTab 1 q ∧ zTab 1 q ≤ 999) := by
  rcases (by omega : q = 0 ∨ q = 1 ∨ q = 2 ∨ q = 3 ∨ q = 4 ∨ q = 5 ∨ q = 6 ∨ q = 7 ∨ q = 8) with rfl | rfl | rfl | rfl | rfl | rfl | rfl | rfl | rfl <;> decide
end AC2
theorem c_Nc_mark {G : zG} {n : Nat} {σ : zSt} {c w v : Int} (hn : 189 ≤ n) (hc0 : zCl σ) (z1 : zr c) (z2 : zr w) (z3 : zr v) : Gm G y_Nc_mark m_Nc_mark 6 0 0 [vr G 0, vi c, vi w, vi v] n SH σ (zI n SH (fun a σ' => zAcC σ σ' a (if ¬ zmOk w v then 1 else if ¬ (0 ≤ c ∧ c < σ 1 0) then 2 else if σ 8 (9 * c.toNat + w.toNat) = v then 4 else if 1999 < zlast (zOpM (zSv σ 1) c.toNat w.toNat v) then 7 else 0) (σ 8 (9 * c.toNat + w.toNat)) (zOpM (zSv σ 1) c.toNat w.toNat v))) := by
  refine g_enter (L := [(0, _), (1, _), (2, _), (3, _)]) (by decide) rfl rfl rfl (Nat.le_of_ble_eq_true rfl) (fun X => ?_)
  obtain ⟨ho, hR, hf, hD, hO, h951, h952⟩ := id hc0
  have hc := ho.1.1
  have hN : zN (zSv σ 1) = (σ 1 0).toNat := rfl
  have hg := ho.1.2.1
  obtain ⟨z1a, z1b⟩ := id z1
  obtain ⟨z2a, z2b⟩ := id z2
  obtain ⟨z3a, z3b⟩ := id z3
  refine g_iload_n (i := 2) (by decide +kernel) rfl ?_
  refine g_if_lt (off := 27) (tgt := 28) (by decide +kernel) (by decide) ⟨by omega, by omega⟩ (fun h1 => ?_) (fun h1 => ?_)
  · refine g_aload_n (i := 0) (by decide +kernel) rfl ?_
    refine g_iconst (a := 1) (by decide +kernel) ?_
    refine g_cVI (st := _) (c_Nc_refuse hn) k_Nc_refuse l_Nc_97 (by decide +kernel) (by omega) rfl rfl rfl rfl (Nat.le_of_ble_eq_true rfl) (by decide) ⟨by decide, by decide⟩ ?_
    rintro a9 σ9 ⟨ea9, hσ9⟩
    obtain rfl := ea9.symm
    subst hσ9
    refine g_retI (by decide +kernel) rfl (Or.inl rfl) ⟨by decide, by decide⟩ ?_
    exact zAcC.no hc0 (if_pos (fun y => by omega)) (by decide)
  · refine g_iload_n (i := 2) (by decide +kernel) rfl ?_
    refine g_bipush (a := 9) (by decide +kernel) (by decide) ?_
    refine g_icmp_ge (off := 21) (tgt := 28) (by decide +kernel) (by decide) ⟨by omega, by omega⟩ ⟨by omega, by omega⟩ (fun h7 => ?_) (fun h7 => ?_)
    · refine g_aload_n (i := 0) (by decide +kernel) rfl ?_
      refine g_iconst (a := 1) (by decide +kernel) ?_
      refine g_cVI (st := _) (c_Nc_refuse hn) k_Nc_refuse l_Nc_97 (by decide +kernel) (by omega) rfl rfl rfl rfl (Nat.le_of_ble_eq_true rfl) (by decide) ⟨by decide, by decide⟩ ?_
      rintro a9 σ9 ⟨ea9, hσ9⟩
      obtain rfl := ea9.symm
      subst hσ9
      refine g_retI (by decide +kernel) rfl (Or.inl rfl) ⟨by decide, by decide⟩ ?_
      exact zAcC.no hc0 (if_pos (fun y => by omega)) (by decide)
    · have tb := zTab_r (q := w.toNat) (by omega)
      refine g_iload_n (i := 3) (by decide +kernel) rfl ?_
      refine g_gets (x := 154) 0 (by decide) (by decide +kernel) s_Nc_154 ?_
      refine g_iload_n (i := 2) (by decide +kernel) rfl ?_
      refine g_tald 0 (by decide) (j := w.toNat) (by decide +kernel) (by omega) (by show _ < 9; omega) ?_
      refine g_icmp_lt (off := 12) (tgt := 28) (by decide +kernel) (by decide) ⟨by omega, by omega⟩ ⟨by omega, by omega⟩ (fun h16 => ?_) (fun h16 => ?_)
      · refine g_aload_n (i := 0) (by decide +kernel) rfl ?_
        refine g_iconst (a := 1) (by decide +kernel) ?_
        refine g_cVI (st := _) (c_Nc_refuse hn) k_Nc_refuse l_Nc_97 (by decide +kernel) (by omega) rfl rfl rfl rfl (Nat.le_of_ble_eq_true rfl) (by decide) ⟨by decide, by decide⟩ ?_
        rintro a9 σ9 ⟨ea9, hσ9⟩
        obtain rfl := ea9.symm
        subst hσ9
        refine g_retI (by decide +kernel) rfl (Or.inl rfl) ⟨by decide, by decide⟩ ?_
        exact zAcC.no hc0 (if_pos (fun y => by omega)) (by decide)
      · refine g_iload_n (i := 3) (by decide +kernel) rfl ?_
        refine g_gets (x := 157) 1 (by decide) (by decide +kernel) s_Nc_157 ?_
        refine g_iload_n (i := 2) (by decide +kernel) rfl ?_
        refine g_tald 1 (by decide) (j := w.toNat) (by decide +kernel) (by omega) (by show _ < 9; omega) ?_
        refine g_icmp_le (off := 9) (tgt := 34) (by decide +kernel) (by decide) ⟨by omega, by omega⟩ ⟨by omega, by omega⟩ (fun h25 => ?_) (fun h25 => ?_)
        · refine g_aload_n (i := 0) (by decide +kernel) rfl ?_
          refine g_getr f_Nc_10 (by decide +kernel) (by omega) rfl rfl ?_
          refine g_iload_n (i := 1) (by decide +kernel) rfl ?_
          refine g_cVI (st := _) (c_Sh_has (b := 1) hn sh_1 z1 ⟨hc.1, hc.2.1⟩) k_Sh_has l_Nc_117 (by decide +kernel) (by omega) rfl rfl rfl rfl (Nat.le_of_ble_eq_true rfl) (by decide) ⟨by decide, by decide⟩ ?_
          rintro a σ9 ⟨ea, hσ⟩
          obtain rfl := hσ.symm
          subst ea
          refine g_if_ne (off := 9) (tgt := 51) (by decide +kernel) (by decide) zbr (fun h42 => ?_) (fun h42 => ?_)
          · have h42 := zb1.mp h42
            have ok : zmOk w v := ⟨by omega, by omega, by omega, by omega⟩
            obtain ⟨k, rfl⟩ := Int.eq_ofNat_of_zero_le h42.1
            obtain ⟨q, rfl⟩ := Int.eq_ofNat_of_zero_le (show 0 ≤ w by omega)
            have gm := ho.1.2.2.1 (9 * k + q) (by omega)
            refine g_aload_n (i := 0) (by decide +kernel) rfl ?_
            refine g_getr f_Nc_10 (by decide +kernel) (by omega) rfl rfl ?_
            refine g_iload_n (i := 1) (by decide +kernel) rfl ?_
            refine g_iload_n (i := 2) (by decide +kernel) rfl ?_
            refine g_cVI (st := _) (c_Sh_markOf (b := 1) (k := k) (w := q) hn sh_1 (by omega) (by omega)) k_Sh_markOf l_Nc_160 (by decide +kernel) (by omega) rfl rfl rfl rfl (Nat.le_of_ble_eq_true rfl) (by decide) ⟨by decide, by decide⟩ ?_
            rintro a9 σ9 ⟨ea9, hσ9⟩
            obtain rfl := hσ9.symm
            have ea9 : a9 = σ 8 (9 * k + q) := ea9
            refine g_istore (i := 4) (L' := [(0, _), (1, _), (2, _), (3, _), (4, _)]) (by decide +kernel) rfl rfl ?_
            refine g_iload (i := 4) (by decide +kernel) rfl ?_
            refine g_iload_n (i := 3) (by decide +kernel) rfl ?_
            refine g_icmp_ne (off := 9) (tgt := 74) (by decide +kernel) (by decide) ⟨by omega, by omega⟩ ⟨by omega, by omega⟩ (fun h65 => ?_) (fun h65 => ?_)
            · refine g_aload_n (i := 0) (by decide +kernel) rfl ?_
              refine g_getr f_Nc_16 (by decide +kernel) (by omega) rfl rfl ?_
              refine g_aload_n (i := 0) (by decide +kernel) rfl ?_
              refine g_getr f_Nc_10 (by decide +kernel) (by omega) rfl rfl ?_
              refine g_cVV (st := _) (c_Sh_copyFrom (b := 11) (f := 1) hn sh_11 sh_1 (Or.inr (by omega))) k_Sh_copyFrom l_Nc_128 (by decide +kernel) (by omega) rfl rfl rfl rfl (Nat.le_of_ble_eq_true rfl) (by decide) ⟨by decide, by decide⟩ ?_
              rintro τ hC
              have gT : zGood τ 11 := zGood_v.mp (hC.sm.good (zGood_v.mpr ho.1))
              refine g_aload_n (i := 0) (by decide +kernel) rfl ?_
              refine g_getr f_Nc_16 (by decide +kernel) (by omega) rfl rfl ?_
              refine g_iload_n (i := 1) (by decide +kernel) rfl ?_
              refine g_iload_n (i := 2) (by decide +kernel) rfl ?_
              refine g_iload_n (i := 3) (by decide +kernel) rfl ?_
              refine g_cVV (st := _) (c_Sh_putMark (b := 11) (k := k) (w := q) hn sh_11 (by omega) (by omega)) k_Sh_putMark l_Nc_163 (by decide +kernel) (by omega) rfl rfl rfl rfl (Nat.le_of_ble_eq_true rfl) (by decide) ⟨by decide, by decide⟩ ?_
              rintro υ hυ
              obtain rfl := hυ.symm
              have hdf : zDf σ (zs τ (11 + 7) (9 * k + q) v) := hC.df.put (by decide)
              have hs : zSame2 (zSv (zs τ (11 + 7) (9 * k + q) v) 11) (zOpM (zSv σ 1) k q v) := by rw [zSv_zs]; exact hC.sm.zs 7 _ _
              have hF2 : zFin (zOpM (zSv σ 1) k q v) := zOpM_fin hf.1 (by omega) (by omega) ⟨ok.2.2.1, ok.2.2.2⟩
              refine g_aload_n (i := 0) (by decide +kernel) rfl ?_
              refine g_iload (i := 4) (by decide +kernel) rfl ?_
              refine g_cVI (st := _) (c_Nc_act hn (hdf.cl hc0 (hs.fin hF2)) (hs.fin hF2)) k_Nc_act l_Nc_114 (by decide +kernel) (by omega) rfl rfl rfl rfl (Nat.le_of_ble_eq_true rfl) (by decide) ⟨by decide, by decide⟩ ?_
              rintro a9 σ9 hA
              have hA := hA.base hdf hs
              rw [hs.last hF2] at hA
              refine g_retI (by decide +kernel) rfl (Or.inl rfl) ⟨by decide, by decide⟩ ?_
              rw [if_neg (fun y => y ok), if_neg (fun y => y h42)]
              simp only [Int.toNat_natCast]
              rw [ea9] at hA
              exact hA.ok (if_neg (by omega))
            · refine g_aload_n (i := 0) (by decide +kernel) rfl ?_
              refine g_iconst (a := 4) (by decide +kernel) ?_
              refine g_cVI (st := _) (c_Nc_refuse hn) k_Nc_refuse l_Nc_97 (by decide +kernel) (by omega) rfl rfl rfl rfl (Nat.le_of_ble_eq_true rfl) (by decide) ⟨by decide, by decide⟩ ?_
              rintro a9 σ9 ⟨ea9, hσ9⟩
              obtain rfl := ea9.symm
              subst hσ9
              refine g_retI (by decide +kernel) rfl (Or.inl rfl) ⟨by decide, by decide⟩ ?_
              exact zAcC.no hc0 (by rw [if_neg (fun y => y ok), if_neg (fun y => y h42)]; simp only [Int.toNat_natCast]; rw [if_pos (by omega)]) (by decide)
          · have h42 := zb0.mp h42
            refine g_aload_n (i := 0) (by decide +kernel) rfl ?_
            refine g_iconst (a := 2) (by decide +kernel) ?_
            refine g_cVI (st := _) (c_Nc_refuse hn) k_Nc_refuse l_Nc_97 (by decide +kernel) (by omega) rfl rfl rfl rfl (Nat.le_of_ble_eq_true rfl) (by decide) ⟨by decide, by decide⟩ ?_
            rintro a9 σ9 ⟨ea9, hσ9⟩
            obtain rfl := ea9.symm
            subst hσ9
            refine g_retI (by decide +kernel) rfl (Or.inl rfl) ⟨by decide, by decide⟩ ?_
            exact zAcC.no hc0 (by rw [if_neg (fun y => y ⟨by omega, by omega, by omega, by omega⟩), if_pos h42]) (by decide)
        · refine g_aload_n (i := 0) (by decide +kernel) rfl ?_
          refine g_iconst (a := 1) (by decide +kernel) ?_
          refine g_cVI (st := _) (c_Nc_refuse hn) k_Nc_refuse l_Nc_97 (by decide +kernel) (by omega) rfl rfl rfl rfl (Nat.le_of_ble_eq_true rfl) (by decide) ⟨by decide, by decide⟩ ?_
          rintro a9 σ9 ⟨ea9, hσ9⟩
          obtain rfl := ea9.symm
          subst hσ9
          refine g_retI (by decide +kernel) rfl (Or.inl rfl) ⟨by decide, by decide⟩ ?_
          exact zAcC.no hc0 (if_pos (fun y => by omega)) (by decide)
theorem c_Nc_press {G : zG} {n : Nat} {σ : zSt} {x t : Int} (hn : 189 ≤ n) (hc0 : zCl σ) (z1 : zr x) (z2 : zr t) : Gm G y_Nc_press m_Nc_press 6 0 0 [vr G 0, vi x, vi t] n SH σ (zI n SH (fun a σ' => zAcC σ σ' a (if x < 0 ∨ 3 < x ∨ ¬ (0 ≤ t ∧ t ≤ 1999) then 1 else if 6 ≤ σ 1 8 then 3 else if zany (fun j => decide (σ 9 j = x ∧ σ 10 j = t)) (σ 1 8).toNat = true then 4 else 0) (σ 1 8 + 1) (zOpP (zSv σ 1) x t))) := by
  refine g_enter (L := [(0, _), (1, _), (2, _)]) (by decide) rfl rfl rfl (Nat.le_of_ble_eq_true rfl) (fun X => ?_)
  obtain ⟨ho, hR, hf, hD, hO, h951, h952⟩ := id hc0
  have hc := ho.1.1
  have hN : zN (zSv σ 1) = (σ 1 0).toNat := rfl
  have hg := ho.1.2.1
  obtain ⟨z1a, z1b⟩ := id z1
  obtain ⟨z2a, z2b⟩ := id z2
  refine g_iload_n (i := 1) (by decide +kernel) rfl ?_
  refine g_if_lt (off := 15) (tgt := 16) (by decide +kernel) (by decide) ⟨by omega, by omega⟩ (fun h1 => ?_) (fun h1 => ?_)
  · refine g_aload_n (i := 0) (by decide +kernel) rfl ?_
    refine g_iconst (a := 1) (by decide +kernel) ?_
    refine g_cVI (st := _) (c_Nc_refuse hn) k_Nc_refuse l_Nc_97 (by decide +kernel) (by omega) rfl rfl rfl rfl (Nat.le_of_ble_eq_true rfl) (by decide) ⟨by decide, by decide⟩ ?_
    rintro a9 σ9 ⟨ea9, hσ9⟩
    obtain rfl := ea9.symm
    subst hσ9
    refine g_retI (by decide +kernel) rfl (Or.inl rfl) ⟨by decide, by decide⟩ ?_
    exact zAcC.no hc0 (if_pos (by omega)) (by decide)
  · refine g_iload_n (i := 1) (by decide +kernel) rfl ?_
    refine g_iconst (a := 3) (by decide +kernel) ?_
    refine g_icmp_gt (off := 10) (tgt := 16) (by decide +kernel) (by decide) ⟨by omega, by omega⟩ ⟨by omega, by omega⟩ (fun h6 => ?_) (fun h6 => ?_)
    · refine g_aload_n (i := 0) (by decide +kernel) rfl ?_
      refine g_iconst (a := 1) (by decide +kernel) ?_
      refine g_cVI (st := _) (c_Nc_refuse hn) k_Nc_refuse l_Nc_97 (by decide +kernel) (by omega) rfl rfl rfl rfl (Nat.le_of_ble_eq_true rfl) (by decide) ⟨by decide, by decide⟩ ?_
      rintro a9 σ9 ⟨ea9, hσ9⟩
      obtain rfl := ea9.symm
      subst hσ9
      refine g_retI (by decide +kernel) rfl (Or.inl rfl) ⟨by decide, by decide⟩ ?_
      exact zAcC.no hc0 (if_pos (by omega)) (by decide)
    · refine g_iload_n (i := 2) (by decide +kernel) rfl ?_
      refine g_cSI (st := _) (c_Nc_isTime z2) k_Nc_isTime l_Nc_187 (by decide +kernel) rfl rfl (Nat.le_of_ble_eq_true rfl) (by decide) ⟨by decide, by decide⟩ ?_
      rintro a σ9 ⟨ea, hσ⟩
      obtain rfl := hσ.symm
      subst ea
      refine g_if_ne (off := 9) (tgt := 22) (by decide +kernel) (by decide) zbr (fun h13 => ?_) (fun h13 => ?_)
      · have h13 := zb1.mp h13
        refine g_aload_n (i := 0) (by decide +kernel) rfl ?_
        refine g_getr f_Nc_10 (by decide +kernel) (by omega) rfl rfl ?_
        refine g_geti f_Nc_190 (by decide +kernel) (by omega) rfl rfl ?_
        refine g_bipush (a := 6) (by decide +kernel) (by decide) ?_
        refine g_icmp_lt (off := 9) (tgt := 40) (by decide +kernel) (by decide) ⟨by omega, by omega⟩ ⟨by omega, by omega⟩ (fun h31 => ?_) (fun h31 => ?_)
        · refine g_aload_n (i := 0) (by decide +kernel) rfl ?_
          refine g_getr f_Nc_10 (by decide +kernel) (by omega) rfl rfl ?_
          refine g_iload_n (i := 1) (by decide +kernel) rfl ?_
          refine g_iload_n (i := 2) (by decide +kernel) rfl ?_
          refine g_cVI (st := _) (c_Sh_hasPress (b := 1) hn sh_1 ho.1 z1 z2) k_Sh_hasPress l_Nc_193 (by decide +kernel) (by omega) rfl rfl rfl rfl (Nat.le_of_ble_eq_true rfl) (by decide) ⟨by decide, by decide⟩ ?_
          rintro a σ9 ⟨ea, hσ⟩
          obtain rfl := hσ.symm
          subst ea
          refine g_if_eq (off := 9) (tgt := 58) (by decide +kernel) (by decide) zbr (fun h49 => ?_) (fun h49 => ?_)
          · have h49 := zb0.mp h49
            refine g_aload_n (i := 0) (by decide +kernel) rfl ?_
            refine g_getr f_Nc_16 (by decide +kernel) (by omega) rfl rfl ?_
            refine g_aload_n (i := 0) (by decide +kernel) rfl ?_
            refine g_getr f_Nc_10 (by decide +kernel) (by omega) rfl rfl ?_
            refine g_cVV (st := _) (c_Sh_copyFrom (b := 11) (f := 1) hn sh_11 sh_1 (Or.inr (by omega))) k_Sh_copyFrom l_Nc_128 (by decide +kernel) (by omega) rfl rfl rfl rfl (Nat.le_of_ble_eq_true rfl) (by decide) ⟨by decide, by decide⟩ ?_
            rintro τ hC
            have gT : zGood τ 11 := zGood_v.mp (hC.sm.good (zGood_v.mpr ho.1))
            refine g_aload_n (i := 0) (by decide +kernel) rfl ?_
            refine g_getr f_Nc_16 (by decide +kernel) (by omega) rfl rfl ?_
            refine g_iload_n (i := 1) (by decide +kernel) rfl ?_
            refine g_iload_n (i := 2) (by decide +kernel) rfl ?_
            have e8 : τ 11 8 = σ 1 8 := hC.2.1
            refine g_cVV (st := _) (c_Sh_appendPress (b := 11) hn sh_11 gT (by omega)) k_Sh_appendPress l_Nc_196 (by decide +kernel) (by omega) rfl rfl rfl rfl (Nat.le_of_ble_eq_true rfl) (by decide) ⟨by decide, by decide⟩ ?_
            rintro υ hυ
            rw [e8] at hυ
            have hdf : zDf σ υ := by rw [hυ]; exact ((hC.df.put (r := 8) (by decide)).put (r := 9) (by decide)).put (r := 0) (by decide)
            have hs : zSame2 (zSv υ 11) (zOpP (zSv σ 1) x t) := by
              rw [hυ]
              have e : zSv (zs (zs (zs τ (11 + 8) (σ 1 8).toNat x) (11 + 9) (σ 1 8).toNat t) (11 + 0) 8 (σ 1 8 + 1)) 11 = zs (zs (zs (zSv τ 11) 8 (σ 1 8).toNat x) 9 (σ 1 8).toNat t) 0 8 (σ 1 8 + 1) := by rw [zSv_zs, zSv_zs, zSv_zs]
              refine (zSame2.of (fun r _ => congrFun e r)).tr ?_
              exact ((hC.sm.zs 8 _ _).zs 9 _ _).zs 0 _ _
            have F2 := zOpP_fin hf.1 (x := x) (y := t) (show σ 1 8 < 6 by omega) (by omega) (by omega)
            have hF2 := F2.1
            have e9 : υ 11 8 = σ 1 8 + 1 := by rw [hυ, zs_eq]
            refine g_aload_n (i := 0) (by decide +kernel) rfl ?_
            refine g_aload_n (i := 0) (by decide +kernel) rfl ?_
            refine g_getr f_Nc_16 (by decide +kernel) (by omega) rfl rfl ?_
            refine g_geti f_Nc_190 (by decide +kernel) (by omega) rfl rfl ?_
            refine g_cVI (st := _) (c_Nc_act hn (hdf.cl hc0 (hs.fin hF2)) (hs.fin hF2)) k_Nc_act l_Nc_114 (by decide +kernel) (by omega) rfl rfl rfl rfl (Nat.le_of_ble_eq_true rfl) (by decide) ⟨by decide, by decide⟩ ?_
            rintro a9 σ9 hA
            have hA := hA.base hdf hs
            rw [hs.last hF2] at hA
            refine g_retI (by decide +kernel) rfl (Or.inl rfl) ⟨by decide, by decide⟩ ?_
            rw [e9] at hA
            have l := hf.2
            exact hA.ok (by rw [if_neg (by omega), if_neg (by omega)]; refine (if_neg h49).trans ?_; rw [if_neg (by rw [F2.2]; omega)])
          · have h49 := zb1.mp h49
            refine g_aload_n (i := 0) (by decide +kernel) rfl ?_
            refine g_iconst (a := 4) (by decide +kernel) ?_
            refine g_cVI (st := _) (c_Nc_refuse hn) k_Nc_refuse l_Nc_97 (by decide +kernel) (by omega) rfl rfl rfl rfl (Nat.le_of_ble_eq_true rfl) (by decide) ⟨by decide, by decide⟩ ?_
            rintro a9 σ9 ⟨ea9, hσ9⟩
            obtain rfl := ea9.symm
            subst hσ9
            refine g_retI (by decide +kernel) rfl (Or.inl rfl) ⟨by decide, by decide⟩ ?_
            exact zAcC.no hc0 (by rw [if_neg (by omega), if_neg (by omega)]; exact if_pos h49) (by decide)
        · refine g_aload_n (i := 0) (by decide +kernel) rfl ?_
          refine g_iconst (a := 3) (by decide +kernel) ?_
          refine g_cVI (st := _) (c_Nc_refuse hn) k_Nc_refuse l_Nc_97 (by decide +kernel) (by omega) rfl rfl rfl rfl (Nat.le_of_ble_eq_true rfl) (by decide) ⟨by decide, by decide⟩ ?_
          rintro a9 σ9 ⟨ea9, hσ9⟩
          obtain rfl := ea9.symm
          subst hσ9
          refine g_retI (by decide +kernel) rfl (Or.inl rfl) ⟨by decide, by decide⟩ ?_
          exact zAcC.no hc0 (by rw [if_neg (by omega), if_pos (by omega)]) (by decide)
      · have h13 := zb0.mp h13
        refine g_aload_n (i := 0) (by decide +kernel) rfl ?_
        refine g_iconst (a := 1) (by decide +kernel) ?_
        refine g_cVI (st := _) (c_Nc_refuse hn) k_Nc_refuse l_Nc_97 (by decide +kernel) (by omega) rfl rfl rfl rfl (Nat.le_of_ble_eq_true rfl) (by decide) ⟨by decide, by decide⟩ ?_
        rintro a9 σ9 ⟨ea9, hσ9⟩
        obtain rfl := ea9.symm
        subst hσ9
        refine g_retI (by decide +kernel) rfl (Or.inl rfl) ⟨by decide, by decide⟩ ?_
        exact zAcC.no hc0 (if_pos (by omega)) (by decide)
/-- a press less -/
def zOpU (S : zSt) (i : Nat) : zSt := fun r j => if r = 0 ∧ j = 8 then S 0 8 - 1 else if (r = 8 ∨ r = 9) ∧ i ≤ j ∧ (j : Int) < S 0 8 - 1 then S r (j + 1) else S r j
theorem zOpU_is (S : zSt) (i : Nat) : zDropP S (zOpU S i) 0 i := by
  refine ⟨?_, fun j hj => ?_, fun j h1 h2 => ?_, fun j hj => ?_, fun a h1 h2 h3 => ?_⟩
  · funext j
    unfold zOpU zu
    by_cases z : j = 8
    · rw [if_pos z, if_pos ⟨rfl, z⟩]
    · rw [if_neg z, if_neg (fun y => z y.2), if_neg (fun y => by rcases y.1 with y | y <;> exact absurd y (by decide))]
  · unfold zOpU
    simp only [Nat.zero_add]
    rw [if_neg (fun y => absurd y.1 (by decide)), if_neg (fun y => by omega), if_neg (fun y => absurd y.1 (by decide)), if_neg (fun y => by omega)]
    exact ⟨rfl, rfl⟩
  · unfold zOpU
    simp only [Nat.zero_add]
    rw [if_neg (fun y => absurd y.1 (by decide)), if_pos ⟨by simp, h1, h2⟩, if_neg (fun y => absurd y.1 (by decide)), if_pos ⟨by simp, h1, h2⟩]
    exact ⟨rfl, rfl⟩
  · unfold zOpU
    simp only [Nat.zero_add]
    rw [if_neg (fun y => absurd y.1 (by decide)), if_neg (fun y => by omega), if_neg (fun y => absurd y.1 (by decide)), if_neg (fun y => by omega)]
    exact ⟨rfl, rfl⟩
  · funext j
    unfold zOpU
    rw [if_neg (fun y => h1 y.1), if_neg (fun y => by omega)]
theorem zDropP_sm {σ τ υ : zSt} {i : Nat} (h8 : 0 ≤ σ 1 8 ∧ σ 1 8 ≤ 6) (hs : zSame2 (zSv τ 11) (zSv σ 1)) (h : zDropP τ υ 11 i) : zSame2 (zSv υ 11) (zOpU (zSv σ 1) i) := by
  obtain ⟨h1, h2, h3, h4, h5⟩ := h
  obtain ⟨u1, u2, u3, u4, u5⟩ := zOpU_is (zSv σ 1) i
  have e8 : τ 11 8 = σ 1 8 := hs.1.2
  have o : ∀ r, 1 ≤ r → r ≤ 7 → υ (11 + r) = τ (11 + r) := fun r a b => h5 _ (by omega) (by omega) (by omega)
  have p : ∀ r, 1 ≤ r → r ≤ 7 → zOpU (zSv σ 1) i r = zSv σ 1 r := fun r a b => u5 r (by omega) (by omega) (by omega)
  refine ⟨⟨?_, ?_⟩, fun r a b k hk => ?_, fun k hk => ?_, fun j hj => ?_⟩
  · show υ 11 0 = _
    rw [h1, u1, zu_ne (by decide), zu_ne (by decide)]; exact hs.1.1
  · show υ 11 8 = _
    rw [h1, u1, zu_eq, zu_eq, e8]; rfl
  · rw [p r a (by omega)]; show υ (11 + r) k = _; rw [o r a (by omega)]; exact hs.2.1 r a b k hk
  · rw [p 7 (by decide) (by decide)]; show υ (11 + 7) k = _; rw [o 7 (by decide) (by decide)]; exact hs.2.2.1 k hk
  · show υ (11 + 8) j = _ ∧ υ (11 + 9) j = _
    by_cases z1 : j < i
    · rw [(h2 j z1).1, (h2 j z1).2, (u2 j z1).1, (u2 j z1).2]; exact hs.2.2.2 j hj
    · by_cases z2 : (j : Int) < σ 1 8 - 1
      · have a := h3 j (by omega) (by rw [e8]; exact z2)
        have b := u3 j (by omega) z2
        rw [a.1, a.2, b.1, b.2]; exact hs.2.2.2 (j + 1) (by omega)
      · have a := h4 j (by rw [e8]; omega)
        have b := u4 j (by show σ 1 8 - 1 ≤ _; omega)
        rw [a.1, a.2, b.1, b.2]; exact hs.2.2.2 j hj
theorem zDropP.df {σ τ υ : zSt} {i : Nat} (hf : zDf σ τ) (h : zDropP τ υ 11 i) : zDf σ υ := fun a ha => by rw [h.2.2.2.2 a (by omega) (by omega) (by omega)]; exact hf a ha
theorem c_Nc_unpress {G : zG} {n : Nat} {σ : zSt} {i : Int} (hn : 189 ≤ n) (hc0 : zCl σ) (z1 : zr i) : Gm G y_Nc_unpress m_Nc_unpress 6 0 0 [vr G 0, vi i] n SH σ (zI n SH (fun a σ' => zAcC σ σ' a (if i < 0 then 1 else if σ 1 8 ≤ i then 8 else 0) (σ 1 8 - 1) (zOpU (zSv σ 1) i.toNat))) := by
  refine g_enter (L := [(0, _), (1, _)]) (by decide) rfl rfl rfl (Nat.le_of_ble_eq_true rfl) (fun X => ?_)
  obtain ⟨ho, hR, hf, hD, hO, h951, h952⟩ := id hc0
  have hc := ho.1.1
  have hN : zN (zSv σ 1) = (σ 1 0).toNat := rfl
  have hg := ho.1.2.1
  obtain ⟨z1a, z1b⟩ := id z1
  refine g_iload_n (i := 1) (by decide +kernel) rfl ?_
  refine g_if_ge (off := 9) (tgt := 10) (by decide +kernel) (by decide) ⟨by omega, by omega⟩ (fun h1 => ?_) (fun h1 => ?_)
  · refine g_iload_n (i := 1) (by decide +kernel) rfl ?_
    refine g_aload_n (i := 0) (by decide +kernel) rfl ?_
    refine g_getr f_Nc_10 (by decide +kernel) (by omega) rfl rfl ?_
    refine g_geti f_Nc_190 (by decide +kernel) (by omega) rfl rfl ?_
    refine g_icmp_lt (off := 10) (tgt := 28) (by decide +kernel) (by decide) ⟨by omega, by omega⟩ ⟨by omega, by omega⟩ (fun h18 => ?_) (fun h18 => ?_)
    · obtain ⟨k, rfl⟩ := Int.eq_ofNat_of_zero_le (show 0 ≤ i by omega)
      refine g_aload_n (i := 0) (by decide +kernel) rfl ?_
      refine g_getr f_Nc_16 (by decide +kernel) (by omega) rfl rfl ?_
      refine g_aload_n (i := 0) (by decide +kernel) rfl ?_
      refine g_getr f_Nc_10 (by decide +kernel) (by omega) rfl rfl ?_
      refine g_cVV (st := _) (c_Sh_copyFrom (b := 11) (f := 1) hn sh_11 sh_1 (Or.inr (by omega))) k_Sh_copyFrom l_Nc_128 (by decide +kernel) (by omega) rfl rfl rfl rfl (Nat.le_of_ble_eq_true rfl) (by decide) ⟨by decide, by decide⟩ ?_
      rintro τ hC
      have gT : zGood τ 11 := zGood_v.mp (hC.sm.good (zGood_v.mpr ho.1))
      refine g_aload_n (i := 0) (by decide +kernel) rfl ?_
      refine g_getr f_Nc_16 (by decide +kernel) (by omega) rfl rfl ?_
      refine g_iload_n (i := 1) (by decide +kernel) rfl ?_
      have e8 : τ 11 8 = σ 1 8 := hC.2.1
      refine g_cVV (st := _) (c_Sh_dropPress (b := 11) (i := k) hn sh_11 gT (by omega)) k_Sh_dropPress l_Nc_199 (by decide +kernel) (by omega) rfl rfl rfl rfl (Nat.le_of_ble_eq_true rfl) (by decide) ⟨by decide, by decide⟩ ?_
      rintro υ hυ
      have hdf : zDf σ υ := hυ.df hC.df
      have hs : zSame2 (zSv υ 11) (zOpU (zSv σ 1) k) := zDropP_sm (by omega) hC.sm hυ
      have F2 := zOpU_fin hf.1 (i := k) (show (k : Int) < σ 1 8 by omega) (zOpU_is _ _)
      have hF2 := F2.1
      have e9 : υ 11 8 = σ 1 8 - 1 := by rw [hυ.1, zu_eq, e8]
      refine g_aload_n (i := 0) (by decide +kernel) rfl ?_
      refine g_aload_n (i := 0) (by decide +kernel) rfl ?_
      refine g_getr f_Nc_16 (by decide +kernel) (by omega) rfl rfl ?_
      refine g_geti f_Nc_190 (by decide +kernel) (by omega) rfl rfl ?_
      refine g_cVI (st := _) (c_Nc_act hn (hdf.cl hc0 (hs.fin hF2)) (hs.fin hF2)) k_Nc_act l_Nc_114 (by decide +kernel) (by omega) rfl rfl rfl rfl (Nat.le_of_ble_eq_true rfl) (by decide) ⟨by decide, by decide⟩ ?_
      rintro a9 σ9 hA
      have hA := hA.base hdf hs
      rw [hs.last hF2] at hA
      refine g_retI (by decide +kernel) rfl (Or.inl rfl) ⟨by decide, by decide⟩ ?_
      rw [e9] at hA
      have l := hf.2
      rw [Int.toNat_natCast]
      exact hA.ok (by rw [if_neg (by omega), if_neg (by omega), if_neg (by rw [F2.2]; omega)])
    · refine g_aload_n (i := 0) (by decide +kernel) rfl ?_
      refine g_bipush (a := 8) (by decide +kernel) (by decide) ?_
      refine g_cVI (st := _) (c_Nc_refuse hn) k_Nc_refuse l_Nc_97 (by decide +kernel) (by omega) rfl rfl rfl rfl (Nat.le_of_ble_eq_true rfl) (by decide) ⟨by decide, by decide⟩ ?_
      rintro a9 σ9 ⟨ea9, hσ9⟩
      obtain rfl := ea9.symm
      subst hσ9
      refine g_retI (by decide +kernel) rfl (Or.inl rfl) ⟨by decide, by decide⟩ ?_
      exact zAcC.no hc0 (by rw [if_neg (by omega), if_pos (by omega)]) (by decide)
  · refine g_aload_n (i := 0) (by decide +kernel) rfl ?_
    refine g_iconst (a := 1) (by decide +kernel) ?_
    refine g_cVI (st := _) (c_Nc_refuse hn) k_Nc_refuse l_Nc_97 (by decide +kernel) (by omega) rfl rfl rfl rfl (Nat.le_of_ble_eq_true rfl) (by decide) ⟨by decide, by decide⟩ ?_
    rintro a9 σ9 ⟨ea9, hσ9⟩
    obtain rfl := ea9.symm
    subst hσ9
    refine g_retI (by decide +kernel) rfl (Or.inl rfl) ⟨by decide, by decide⟩ ?_
    exact zAcC.no hc0 (if_pos (by omega)) (by decide)
