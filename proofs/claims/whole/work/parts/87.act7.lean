theorem w_Nc_slack {G : zG} {X : zX} {n : Nat} {σ : zSt} {k o : Nat} (hn : 189 ≤ n) (hc0 : zCl σ) (hk : k < (σ 1 0).toNat) (ho7 : σ 7 k = (o : Int)) (h4 : σ 5 k = 0)  : ∀ (m : Nat) (i lo hi : Nat) (x3 x4 x5 : Int) (τ : zSt), x5 = (i : Int) → x3 = (lo : Int) → x4 = (hi : Int) → zTry σ τ 6 k → (o + 1 ≤ lo ∧ lo ≤ hi ∧ hi ≤ 1000) → (hi - lo < 2 ^ (10 - i)) → (∀ n : Nat, o + 1 ≤ n → n < lo → zlast (zOp6 (zSv σ 1) k (n : Int)) ≤ zlast (zSv σ 1)) → (∀ n : Nat, hi ≤ n → n ≤ 999 → zlast (zSv σ 1) < zlast (zOp6 (zSv σ 1) k (n : Int))) → i ≤ 10 → 10 < i + m → Go G X m_Nc_slack (7, 0, 0, 0, 0) n SH τ 68 [(0, vr G 0), (1, vi (k : Int)), (2, vi (o : Int)), (3, vi x3), (4, vi x4), (5, vi x5)] [] (zI n SH (fun a σ' => zAsk σ σ' a (if ¬ (0 ≤ (k : Int) ∧ (k : Int) < σ 1 0) then 2 else if σ 5 k ≠ 0 then 5 else if zslk (zSv σ 1) k = -1 then 8 else 0) (zslk (zSv σ 1) k - σ 7 k - 1))) := by
  intro m
  induction m with
  | zero => intro i lo hi x3 x4 x5 τ e5 e3 e4 hT hb hsz hlo hhi hi10 hm; exact absurd hm (by omega)
  | succ m ih =>
    intro i lo hi x3 x4 x5 τ e5 e3 e4 hT hb hsz hlo hhi hi10 hm
    obtain ⟨ho, hR, hf, hD, hO, h951, h952⟩ := id hc0
    have hc := ho.1.1
    have hN : zN (zSv σ 1) = (σ 1 0).toNat := rfl
    have hg := ho.1.2.1
    subst e5 e3 e4
    have o9 : 0 ≤ σ 7 k ∧ σ 7 k ≤ 999 := (hg k (by omega)).2.2.2.2.2
    have lr := hf.1.lr
    have el := ho.lst
    have J132 : lo = hi → Go G X m_Nc_slack (7, 0, 0, 0, 0) n SH τ 132 [(0, vr G 0), (1, vi (k : Int)), (2, vi (o : Int)), (3, vi (lo : Int)), (4, vi (hi : Int)), (5, vi (i : Int))] [] (zI n SH (fun a σ' => zAsk σ σ' a (if ¬ (0 ≤ (k : Int) ∧ (k : Int) < σ 1 0) then 2 else if σ 5 k ≠ 0 then 5 else if zslk (zSv σ 1) k = -1 then 8 else 0) (zslk (zSv σ 1) k - σ 7 k - 1))) := by
      intro eq
      refine g_iload (i := 4) (by decide +kernel) rfl ?_
      refine g_sipush (a := 999) (by decide +kernel) (by decide) ?_
      refine g_icmp_le (off := 12) (tgt := 149) (by decide +kernel) (by decide) ⟨by omega, by omega⟩ ⟨by omega, by omega⟩ (fun h137 => ?_) (fun h137 => ?_)
      · refine g_aload_n (i := 0) (by decide +kernel) rfl ?_
        refine g_iload (i := 4) (by decide +kernel) rfl ?_
        refine g_iload_n (i := 2) (by decide +kernel) rfl ?_
        refine g_isub (by decide +kernel) ?_
        refine g_iconst (a := 1) (by decide +kernel) ?_
        refine g_isub (by decide +kernel) ?_
        refine g_cVI (st := _) (c_Nc_give hn) k_Nc_give l_Nc_208 (by decide +kernel) (by omega) rfl rfl rfl rfl (Nat.le_of_ble_eq_true rfl) (by decide) ⟨by decide, by decide⟩ ?_
        rintro a9 σ9 ⟨ea9, hσ9⟩
        obtain rfl := ea9.symm
        subst hσ9
        refine g_retI (by decide +kernel) rfl (Or.inl rfl) ⟨by decide, by decide⟩ ?_
        have eo : ((zSv σ 1) 6 k).toNat = o := by show (σ 7 k).toNat = o; omega
        first
          | (have hz : (999 : Int) < (hi : Int) := h137
             have ez : zslk (zSv σ 1) k = -1 := by
               unfold zslk
               rw [eo]
               refine zfr_no _ _ (fun n a b => decide_eq_false ?_)
               have := hlo n (by omega) (by omega)
               omega
             have e : (if ¬ (0 ≤ (k : Int) ∧ (k : Int) < σ 1 0) then 2 else if σ 5 k ≠ 0 then 5 else if zslk (zSv σ 1) k = -1 then 8 else 0) = (8 : Int) := by rw [if_neg (by omega), if_neg (by omega), if_pos ez]
             rw [e]
             exact ⟨hT.cr, by rw [if_neg (by decide)]⟩)
          | (have hz : (hi : Int) ≤ 999 := h137
             have ez : zslk (zSv σ 1) k = (hi : Int) := by
               unfold zslk
               rw [eo]
               refine zfr_at _ _ (by omega) (by omega) (fun n a b => decide_eq_false ?_) (decide_eq_true (hhi hi (Nat.le_refl _) (by omega)))
               have := hlo n (by omega) (by omega)
               omega
             have e : (if ¬ (0 ≤ (k : Int) ∧ (k : Int) < σ 1 0) then 2 else if σ 5 k ≠ 0 then 5 else if zslk (zSv σ 1) k = -1 then 8 else 0) = (0 : Int) := by rw [if_neg (by omega), if_neg (by omega), if_neg (by omega)]
             rw [e]
             exact ⟨hT.cr, by rw [if_pos rfl, ez]; omega⟩)
      · refine g_aload_n (i := 0) (by decide +kernel) rfl ?_
        refine g_bipush (a := 8) (by decide +kernel) (by decide) ?_
        refine g_cVI (st := _) (c_Nc_refuse hn) k_Nc_refuse l_Nc_97 (by decide +kernel) (by omega) rfl rfl rfl rfl (Nat.le_of_ble_eq_true rfl) (by decide) ⟨by decide, by decide⟩ ?_
        rintro a9 σ9 ⟨ea9, hσ9⟩
        obtain rfl := ea9.symm
        subst hσ9
        refine g_goto (off := 13) (tgt := 159) (by decide +kernel) (by decide) ?_
        refine g_retI (by decide +kernel) rfl (Or.inl rfl) ⟨by decide, by decide⟩ ?_
        have eo : ((zSv σ 1) 6 k).toNat = o := by show (σ 7 k).toNat = o; omega
        first
          | (have hz : (999 : Int) < (hi : Int) := h137
             have ez : zslk (zSv σ 1) k = -1 := by
               unfold zslk
               rw [eo]
               refine zfr_no _ _ (fun n a b => decide_eq_false ?_)
               have := hlo n (by omega) (by omega)
               omega
             have e : (if ¬ (0 ≤ (k : Int) ∧ (k : Int) < σ 1 0) then 2 else if σ 5 k ≠ 0 then 5 else if zslk (zSv σ 1) k = -1 then 8 else 0) = (8 : Int) := by rw [if_neg (by omega), if_neg (by omega), if_pos ez]
             rw [e]
             exact ⟨hT.cr, by rw [if_neg (by decide)]⟩)
          | (have hz : (hi : Int) ≤ 999 := h137
             have ez : zslk (zSv σ 1) k = (hi : Int) := by
               unfold zslk
               rw [eo]
               refine zfr_at _ _ (by omega) (by omega) (fun n a b => decide_eq_false ?_) (decide_eq_true (hhi hi (Nat.le_refl _) (by omega)))
               have := hlo n (by omega) (by omega)
               omega
             have e : (if ¬ (0 ≤ (k : Int) ∧ (k : Int) < σ 1 0) then 2 else if σ 5 k ≠ 0 then 5 else if zslk (zSv σ 1) k = -1 then 8 else 0) = (0 : Int) := by rw [if_neg (by omega), if_neg (by omega), if_neg (by omega)]
             rw [e]
             exact ⟨hT.cr, by rw [if_pos rfl, ez]; omega⟩)
    refine g_iload (i := 5) (by decide +kernel) rfl ?_
    refine g_bipush (a := 10) (by decide +kernel) (by decide) ?_
    refine g_icmp_ge (off := 60) (tgt := 132) (by decide +kernel) (by decide) ⟨by omega, by omega⟩ ⟨by omega, by omega⟩ (fun h72 => ?_) (fun h72 => ?_)
    · refine J132 ?_
      first
        | omega
        | (have z : i = 10 := by omega
           subst z
           have e : (2 : Nat) ^ (10 - 10) = 1 := rfl
           rw [e] at hsz
           omega)
    · refine g_iload_n (i := 3) (by decide +kernel) rfl ?_
      refine g_iload (i := 4) (by decide +kernel) rfl ?_
      refine g_icmp_ge (off := 54) (tgt := 132) (by decide +kernel) (by decide) ⟨by omega, by omega⟩ ⟨by omega, by omega⟩ (fun h78 => ?_) (fun h78 => ?_)
      · refine J132 ?_
        first
          | omega
          | (have z : i = 10 := by omega
             subst z
             have e : (2 : Nat) ^ (10 - 10) = 1 := rfl
             rw [e] at hsz
             omega)
      · obtain ⟨md, emd⟩ : ∃ md : Nat, md = (lo + hi) / 2 := ⟨_, rfl⟩
        have hh := zhalf hsz (by omega) (by omega)
        rw [← emd] at hh
        have emd2 : ((lo : Int) + (hi : Int)) / 2 = (md : Int) := by omega
        refine g_iload_n (i := 3) (by decide +kernel) rfl ?_
        refine g_iload (i := 4) (by decide +kernel) rfl ?_
        refine g_iadd (by decide +kernel) ?_
        refine g_iconst (a := 2) (by decide +kernel) ?_
        refine g_idiv (by decide +kernel) ⟨by omega, by omega, by omega, by omega⟩ ?_
        rw [emd2]
        refine g_istore (i := 6) (L' := [(0, _), (1, _), (2, _), (3, _), (4, _), (5, _), (6, _)]) (by decide +kernel) rfl rfl ?_
        refine g_aload_n (i := 0) (by decide +kernel) rfl ?_
        refine g_getr f_Nc_16 (by decide +kernel) (by omega) rfl rfl ?_
        refine g_getr f_Nc_173 (by decide +kernel) (by omega) rfl rfl ?_
        refine g_iload_n (i := 1) (by decide +kernel) rfl ?_
        refine g_iload (i := 6) (by decide +kernel) rfl ?_
        refine g_iast (j := k) (by decide +kernel) (by omega) rfl rfl (by omega) (by decide) ?_
        obtain ⟨υ, hυ⟩ : ∃ υ, υ = zs τ 17 k (md : Int) := ⟨_, rfl⟩
        rw [← hυ]
        have hF2 : zFin (zOp6 (zSv σ 1) k (md : Int)) := zOp6_fin hf.1 (by omega)
        have hs : zSame2 (zSv υ 11) (zOp6 (zSv σ 1) k (md : Int)) := by rw [hυ]; show zSame2 (zSv (zs τ (11 + 6) k (md : Int)) 11) _; rw [zSv_zs]; exact hT.2.2.2 _
        have o32 : ∀ j, j < 12 → υ 32 j = 0 ∨ υ 32 j = 1 := by rw [hυ, zs_other (by decide)]; exact hT.2.2.1
        refine g_aload_n (i := 0) (by decide +kernel) rfl ?_
        refine g_cVI (st := _) (c_Nc_draftLasts hn (hs.fin hF2) o32) k_Nc_draftLasts l_Nc_352 (by decide +kernel) (by omega) rfl rfl rfl rfl (Nat.le_of_ble_eq_true rfl) (by decide) ⟨by decide, by decide⟩ ?_
        rintro a9 ω ⟨ea9, ht, hO2⟩
        rw [hs.last hF2] at ea9
        have a9r := hF2.lr
        have hW : zTry σ ω 6 k := hT.put (by decide) hF2.1 (fun a ha => by rw [ht a ha, hυ]) hO2
        have e21 : ω 21 5 = zlast (zSv σ 1) := by rw [hW.1 21 (by decide)]; exact el
        refine g_aload_n (i := 0) (by decide +kernel) rfl ?_
        refine g_getr f_Nc_22 (by decide +kernel) (by omega) rfl rfl ?_
        refine g_geti f_Nc_215 (by decide +kernel) (by omega) rfl rfl ?_
        refine g_icmp_le (off := 10) (tgt := 121) (by decide +kernel) (by decide) ⟨by omega, by omega⟩ ⟨by omega, by omega⟩ (fun h111 => ?_) (fun h111 => ?_)
        · refine g_iload (i := 6) (by decide +kernel) rfl ?_
          refine g_iconst (a := 1) (by decide +kernel) ?_
          refine g_iadd (by decide +kernel) ?_
          refine g_istore_n (i := 3) (L' := [(0, _), (1, _), (2, _), (3, _), (4, _), (5, _), (6, _)]) (by decide +kernel) rfl rfl ?_
          refine g_iinc (i := 5) (b := 1) (L' := [(0, _), (1, _), (2, _), (3, _), (4, _), (5, _), (6, _)]) (by decide +kernel) rfl rfl rfl ?_
          refine g_goto (off := -61) (tgt := 68) (by decide +kernel) (by decide) ?_
          refine g_less [0, 1, 2, 3, 4, 5] rfl ?_
          first
            | (have hz : a9 ≤ ω 21 5 := h111
               refine ih (i + 1) (md + 1) hi _ _ _ ω (by push_cast; rfl) (by push_cast; rfl) rfl hW (by omega) hh.2 (fun n a b => ?_) hhi (by omega) (by omega)
               have := zOp6_up hf.1 (c := k) (v := (n : Int)) (v' := (md : Int)) (by omega) (by omega)
               omega)
            | (have hz : ω 21 5 < a9 := h111
               refine ih (i + 1) lo md _ _ _ ω (by push_cast; rfl) rfl rfl hW (by omega) hh.1 hlo (fun n a b => ?_) (by omega) (by omega)
               have := zOp6_up hf.1 (c := k) (v := (md : Int)) (v' := (n : Int)) (by omega) (by omega)
               omega)
        · refine g_iload (i := 6) (by decide +kernel) rfl ?_
          refine g_istore (i := 4) (L' := [(0, _), (1, _), (2, _), (3, _), (4, _), (5, _), (6, _)]) (by decide +kernel) rfl rfl ?_
          refine g_goto (off := 8) (tgt := 126) (by decide +kernel) (by decide) ?_
          refine g_iinc (i := 5) (b := 1) (L' := [(0, _), (1, _), (2, _), (3, _), (4, _), (5, _), (6, _)]) (by decide +kernel) rfl rfl rfl ?_
          refine g_goto (off := -61) (tgt := 68) (by decide +kernel) (by decide) ?_
          refine g_less [0, 1, 2, 3, 4, 5] rfl ?_
          first
            | (have hz : a9 ≤ ω 21 5 := h111
               refine ih (i + 1) (md + 1) hi _ _ _ ω (by push_cast; rfl) (by push_cast; rfl) rfl hW (by omega) hh.2 (fun n a b => ?_) hhi (by omega) (by omega)
               have := zOp6_up hf.1 (c := k) (v := (n : Int)) (v' := (md : Int)) (by omega) (by omega)
               omega)
            | (have hz : ω 21 5 < a9 := h111
               refine ih (i + 1) lo md _ _ _ ω (by push_cast; rfl) rfl rfl hW (by omega) hh.1 hlo (fun n a b => ?_) (by omega) (by omega)
               have := zOp6_up hf.1 (c := k) (v := (md : Int)) (v' := (n : Int)) (by omega) (by omega)
               omega)
theorem c_Nc_slack {G : zG} {n : Nat} {σ : zSt} {c : Int} (hn : 189 ≤ n) (hc0 : zCl σ) (z1 : zr c) : Gm G y_Nc_slack m_Nc_slack 7 0 0 [vr G 0, vi c] n SH σ (zI n SH (fun a σ' => zAsk σ σ' a (if ¬ (0 ≤ c ∧ c < σ 1 0) then 2 else if σ 5 c.toNat ≠ 0 then 5 else if zslk (zSv σ 1) c.toNat = -1 then 8 else 0) (zslk (zSv σ 1) c.toNat - σ 7 c.toNat - 1))) := by
  refine g_enter (L := [(0, _), (1, _)]) (by decide) rfl rfl rfl (Nat.le_of_ble_eq_true rfl) (fun X => ?_)
  obtain ⟨ho, hR, hf, hD, hO, h951, h952⟩ := id hc0
  have hc := ho.1.1
  have hN : zN (zSv σ 1) = (σ 1 0).toNat := rfl
  have hg := ho.1.2.1
  obtain ⟨z1a, z1b⟩ := id z1
  refine g_aload_n (i := 0) (by decide +kernel) rfl ?_
  refine g_getr f_Nc_10 (by decide +kernel) (by omega) rfl rfl ?_
  refine g_iload_n (i := 1) (by decide +kernel) rfl ?_
  refine g_cVI (st := _) (c_Sh_has (b := 1) hn sh_1 z1 ⟨hc.1, hc.2.1⟩) k_Sh_has l_Nc_117 (by decide +kernel) (by omega) rfl rfl rfl rfl (Nat.le_of_ble_eq_true rfl) (by decide) ⟨by decide, by decide⟩ ?_
  rintro a σ9 ⟨ea, hσ⟩
  obtain rfl := hσ.symm
  subst ea
  refine g_if_ne (off := 9) (tgt := 17) (by decide +kernel) (by decide) zbr (fun h8 => ?_) (fun h8 => ?_)
  · have h8 := zb1.mp h8
    obtain ⟨k, rfl⟩ := Int.eq_ofNat_of_zero_le h8.1
    have k5 : 0 ≤ σ 5 k ∧ σ 5 k ≤ 3 := (hg k (by omega)).2.2.2.1
    have k7 : 0 ≤ σ 7 k ∧ σ 7 k ≤ 999 := (hg k (by omega)).2.2.2.2.2
    refine g_aload_n (i := 0) (by decide +kernel) rfl ?_
    refine g_getr f_Nc_10 (by decide +kernel) (by omega) rfl rfl ?_
    refine g_getr f_Nc_167 (by decide +kernel) (by omega) rfl rfl ?_
    refine g_iload_n (i := 1) (by decide +kernel) rfl ?_
    refine g_iald (j := k) (by decide +kernel) (by omega) rfl rfl (by omega) (by decide) ?_
    refine g_if_eq (off := 9) (tgt := 35) (by decide +kernel) (by decide) ⟨by omega, by omega⟩ (fun h26 => ?_) (fun h26 => ?_)
    · obtain ⟨o, eo⟩ := Int.eq_ofNat_of_zero_le k7.1
      refine g_aload_n (i := 0) (by decide +kernel) rfl ?_
      refine g_getr f_Nc_10 (by decide +kernel) (by omega) rfl rfl ?_
      refine g_getr f_Nc_173 (by decide +kernel) (by omega) rfl rfl ?_
      refine g_iload_n (i := 1) (by decide +kernel) rfl ?_
      refine g_iald (j := k) (by decide +kernel) (by omega) rfl rfl (by omega) (by decide) ?_
      rw [show σ 7 k = (o : Int) from eo]
      refine g_istore_n (i := 2) (L' := [(0, _), (1, _), (2, _)]) (by decide +kernel) rfl rfl ?_
      refine g_iload_n (i := 2) (by decide +kernel) rfl ?_
      refine g_iconst (a := 1) (by decide +kernel) ?_
      refine g_iadd (by decide +kernel) ?_
      refine g_istore_n (i := 3) (L' := [(0, _), (1, _), (2, _), (3, _)]) (by decide +kernel) rfl rfl ?_
      refine g_sipush (a := 1000) (by decide +kernel) (by decide) ?_
      refine g_istore (i := 4) (L' := [(0, _), (1, _), (2, _), (3, _), (4, _)]) (by decide +kernel) rfl rfl ?_
      refine g_aload_n (i := 0) (by decide +kernel) rfl ?_
      refine g_getr f_Nc_16 (by decide +kernel) (by omega) rfl rfl ?_
      refine g_aload_n (i := 0) (by decide +kernel) rfl ?_
      refine g_getr f_Nc_10 (by decide +kernel) (by omega) rfl rfl ?_
      refine g_cVV (st := _) (c_Sh_copyFrom (b := 11) (f := 1) hn sh_11 sh_1 (Or.inr (by omega))) k_Sh_copyFrom l_Nc_128 (by decide +kernel) (by omega) rfl rfl rfl rfl (Nat.le_of_ble_eq_true rfl) (by decide) ⟨by decide, by decide⟩ ?_
      rintro τ hC
      have gT : zGood τ 11 := zGood_v.mp (hC.sm.good (zGood_v.mpr ho.1))
      refine g_iconst (a := 0) (by decide +kernel) ?_
      refine g_istore (i := 5) (L' := [(0, _), (1, _), (2, _), (3, _), (4, _), (5, _)]) (by decide +kernel) rfl rfl ?_
      simp only [Int.toNat_natCast]
      refine w_Nc_slack hn hc0 (by omega) eo h26 11 0 (o + 1) 1000 _ _ _ τ rfl (by push_cast; rfl) rfl (zTry.mk0 hc0 hC) (by omega) (by have e : (2 : Nat) ^ (10 - 0) = 1024 := rfl; rw [e]; omega) (fun n a b => by omega) (fun n a b => by omega) (by omega) (by omega)
    · refine g_aload_n (i := 0) (by decide +kernel) rfl ?_
      refine g_iconst (a := 5) (by decide +kernel) ?_
      refine g_cVI (st := _) (c_Nc_refuse hn) k_Nc_refuse l_Nc_97 (by decide +kernel) (by omega) rfl rfl rfl rfl (Nat.le_of_ble_eq_true rfl) (by decide) ⟨by decide, by decide⟩ ?_
      rintro a9 σ9 ⟨ea9, hσ9⟩
      obtain rfl := ea9.symm
      subst hσ9
      refine g_retI (by decide +kernel) rfl (Or.inl rfl) ⟨by decide, by decide⟩ ?_
      exact zAsk.no hc0 (by rw [Int.toNat_natCast, if_neg (fun y => y h8), if_pos h26]) (by decide)
  · have h8 := zb0.mp h8
    refine g_aload_n (i := 0) (by decide +kernel) rfl ?_
    refine g_iconst (a := 2) (by decide +kernel) ?_
    refine g_cVI (st := _) (c_Nc_refuse hn) k_Nc_refuse l_Nc_97 (by decide +kernel) (by omega) rfl rfl rfl rfl (Nat.le_of_ble_eq_true rfl) (by decide) ⟨by decide, by decide⟩ ?_
    rintro a9 σ9 ⟨ea9, hσ9⟩
    obtain rfl := ea9.symm
    subst hσ9
    refine g_retI (by decide +kernel) rfl (Or.inl rfl) ⟨by decide, by decide⟩ ?_
    exact zAsk.no hc0 (if_pos h8) (by decide)
theorem c_Nc_feed {G : zG} {n : Nat} {σ : zSt} {a b c d e : Int} (hn : 189 ≤ n) (z1 : zr a) (z2 : zr b) (z3 : zr c) (z4 : zr d) (z5 : zr e) (ht : 0 ≤ σ 177 1 ∧ σ 177 1 ≤ 600) : Gm G y_Nc_feed m_Nc_feed 1 0 0 [vr G 0, vi a, vi b, vi c, vi d, vi e] n SH σ (zI n SH (fun x σ' => (580 < σ 177 1 ∧ x = -1 ∧ σ' = σ) ∨ (σ 177 1 ≤ 580 ∧ x = σ 177 1 + 20 ∧ ∃ t1 t2 t3 t4, zTape σ t1 a 4 ∧ zTape t1 t2 b 4 ∧ zTape t2 t3 c 4 ∧ zTape t3 t4 d 4 ∧ zTape t4 σ' e 4))) := by
  refine g_enter (L := [(0, _), (1, _), (2, _), (3, _), (4, _), (5, _)]) (by decide) rfl rfl rfl (Nat.le_of_ble_eq_true rfl) (fun X => ?_)
  refine g_aload_n (i := 0) (by decide +kernel) rfl ?_
  refine g_getr f_Nc_57 (by decide +kernel) (by omega) rfl rfl ?_
  refine g_geti f_Nc_90 (by decide +kernel) (by omega) rfl rfl ?_
  refine g_bipush (a := 20) (by decide +kernel) (by decide) ?_
  refine g_iadd (by decide +kernel) ?_
  refine g_sipush (a := 600) (by decide +kernel) (by decide) ?_
  refine g_icmp_le (off := 5) (tgt := 18) (by decide +kernel) (by decide) ⟨by omega, by omega⟩ ⟨by omega, by omega⟩ (fun h13 => ?_) (fun h13 => ?_)
  · refine g_aload_n (i := 0) (by decide +kernel) rfl ?_
    refine g_getr f_Nc_57 (by decide +kernel) (by omega) rfl rfl ?_
    refine g_iload_n (i := 1) (by decide +kernel) rfl ?_
    refine g_cVV (st := _) (c_Ta_putInt hn z1 (by omega)) k_Ta_putInt l_Nc_93 (by decide +kernel) (by omega) rfl rfl rfl rfl (Nat.le_of_ble_eq_true rfl) (by decide) ⟨by decide, by decide⟩ ?_
    rintro t1 h1
    have l1 : t1 177 1 = σ 177 1 + 4 := by rw [h1.1, zu_eq]; rfl
    refine g_aload_n (i := 0) (by decide +kernel) rfl ?_
    refine g_getr f_Nc_57 (by decide +kernel) (by omega) rfl rfl ?_
    refine g_iload_n (i := 2) (by decide +kernel) rfl ?_
    refine g_cVV (st := _) (c_Ta_putInt hn z2 (by omega)) k_Ta_putInt l_Nc_93 (by decide +kernel) (by omega) rfl rfl rfl rfl (Nat.le_of_ble_eq_true rfl) (by decide) ⟨by decide, by decide⟩ ?_
    rintro t2 h2
    have l2 : t2 177 1 = σ 177 1 + 8 := by rw [h2.1, zu_eq, l1]; omega
    refine g_aload_n (i := 0) (by decide +kernel) rfl ?_
    refine g_getr f_Nc_57 (by decide +kernel) (by omega) rfl rfl ?_
    refine g_iload_n (i := 3) (by decide +kernel) rfl ?_
    refine g_cVV (st := _) (c_Ta_putInt hn z3 (by omega)) k_Ta_putInt l_Nc_93 (by decide +kernel) (by omega) rfl rfl rfl rfl (Nat.le_of_ble_eq_true rfl) (by decide) ⟨by decide, by decide⟩ ?_
    rintro t3 h3
    have l3 : t3 177 1 = σ 177 1 + 12 := by rw [h3.1, zu_eq, l2]; omega
    refine g_aload_n (i := 0) (by decide +kernel) rfl ?_
    refine g_getr f_Nc_57 (by decide +kernel) (by omega) rfl rfl ?_
    refine g_iload (i := 4) (by decide +kernel) rfl ?_
    refine g_cVV (st := _) (c_Ta_putInt hn z4 (by omega)) k_Ta_putInt l_Nc_93 (by decide +kernel) (by omega) rfl rfl rfl rfl (Nat.le_of_ble_eq_true rfl) (by decide) ⟨by decide, by decide⟩ ?_
    rintro t4 h4
    have l4 : t4 177 1 = σ 177 1 + 16 := by rw [h4.1, zu_eq, l3]; omega
    refine g_aload_n (i := 0) (by decide +kernel) rfl ?_
    refine g_getr f_Nc_57 (by decide +kernel) (by omega) rfl rfl ?_
    refine g_iload (i := 5) (by decide +kernel) rfl ?_
    refine g_cVV (st := _) (c_Ta_putInt hn z5 (by omega)) k_Ta_putInt l_Nc_93 (by decide +kernel) (by omega) rfl rfl rfl rfl (Nat.le_of_ble_eq_true rfl) (by decide) ⟨by decide, by decide⟩ ?_
    rintro t5 h5
    have l5 : t5 177 1 = σ 177 1 + 20 := by rw [h5.1, zu_eq, l4]; omega
    refine g_aload_n (i := 0) (by decide +kernel) rfl ?_
    refine g_getr f_Nc_57 (by decide +kernel) (by omega) rfl rfl ?_
    refine g_geti f_Nc_90 (by decide +kernel) (by omega) rfl rfl ?_
    refine g_retI (by decide +kernel) rfl (Or.inl rfl) ⟨by decide, by decide⟩ ?_
    exact Or.inr ⟨by omega, l5, t1, t2, t3, t4, h1, h2, h3, h4, h5⟩
  · refine g_iconst (a := -1) (by decide +kernel) ?_
    refine g_retI (by decide +kernel) rfl (Or.inl rfl) ⟨by decide, by decide⟩ ?_
    exact Or.inl ⟨by omega, rfl, rfl⟩
