/-- a loop over times: only the moment now has changed -/
def zLo (σ τ : zSt) : Prop := zOn τ ∧ ∀ a, (a < 34 ∨ 42 ≤ a) → τ a = σ a
section LO
variable {σ τ τ1 : zSt} {t : Int}
theorem zLo.rf (ho : zOn σ) : zLo σ σ := ⟨ho, fun _ _ => rfl⟩
theorem zLo.at (h : zLo σ τ) (ho : zOn σ) (hA : zAtP τ τ1 t) : zAtP σ τ1 t ∧ zLo σ τ1 := by
  have e : zv (zSv τ 1) t = zv (zSv σ 1) t := zv_low (fun a ha => h.2 a (Or.inl ha)) ho t
  obtain ⟨a1, a2, a3, a4, a5⟩ := id hA
  rw [e, h.2 1 (by decide)] at a3
  rw [e, h.2 1 (by decide), h.2 2 (by decide)] at a4
  rw [e] at a5
  exact ⟨⟨fun a ha => (a1 a ha).trans (h.2 a ha), a2, a3, a4, a5⟩, hA.on h.1, fun a ha => (a1 a ha).trans (h.2 a ha)⟩
theorem zLo.q (h : zLo σ τ) (hR : zRs (σ 93)) : zQf σ τ := ⟨fun a h1 h2 _ _ => h.2 a h1, h.1, by rw [h.2 93 (by decide)]; exact hR, fun j _ => by rw [h.2 0 (by decide)]⟩
theorem zLo.n (h : zLo σ τ) : τ 1 = σ 1 := h.2 1 (by decide)
end LO
noncomputable def zwr (S : zSt) (t c : Int) : Int := if zwa (S 0 0) t c ≠ 0 then zwa (S 0 0) t c else if zv S t 1 c.toNat = 2 ∨ zv S t 1 c.toNat = 3 then 0 else 8
theorem zwr_0 {S : zSt} {t c : Int} (h : zwr S t c = 0) : (0 ≤ t ∧ t ≤ 1999) ∧ (0 ≤ c ∧ c < S 0 0) := by
  unfold zwr at h
  by_cases z : zwa (S 0 0) t c = 0
  · exact zwa_0.mp z
  · rw [if_pos z] at h; exact absurd h z
theorem zwr_r {S : zSt} {t c : Int} : 0 ≤ zwr S t c ∧ zwr S t c ≤ 8 := by
  have := @zwa_r (S 0 0) t c
  unfold zwr
  split
  · omega
  · split <;> omega
theorem c_Nc_whyNotRunning {G : zG} {n : Nat} {σ : zSt} {c t : Int} (hn : 189 ≤ n) (ho : zOn σ) (hR : zRs (σ 93)) (z1 : zr c) (z2 : zr t) : Gm G y_Nc_whyNotRunning m_Nc_whyNotRunning 5 0 0 [vr G 0, vi c, vi t] n SH σ (zI n SH (fun a σ' => a = zwr (zSv σ 1) t c ∧ zLo σ σ')) := by
  refine g_enter (L := [(0, _), (1, _), (2, _)]) (by decide) rfl rfl rfl (Nat.le_of_ble_eq_true rfl) (fun X => ?_)
  have hc := ho.1.1
  obtain ⟨z1a, z1b⟩ := id z1
  obtain ⟨z2a, z2b⟩ := id z2
  have e0 : zSv σ 1 0 0 = σ 1 0 := rfl
  refine g_aload_n (i := 0) (by decide +kernel) rfl ?_
  refine g_iload_n (i := 1) (by decide +kernel) rfl ?_
  refine g_iload_n (i := 2) (by decide +kernel) rfl ?_
  refine g_cVI (st := _) (c_Nc_whyNotAt hn ho hR (by assumption) (by assumption)) k_Nc_whyNotAt l_Nc_252 (by decide +kernel) (by omega) rfl rfl rfl rfl (Nat.le_of_ble_eq_true rfl) (by decide) ⟨by decide, by decide⟩ ?_
  rintro a σ9 ⟨ea, hσ⟩
  obtain rfl := hσ.symm
  subst ea
  have zw := @zwa_r (σ 1 0) t c
  refine g_istore_n (i := 3) (L' := [(0, _), (1, _), (2, _), (3, _)]) (by decide +kernel) rfl rfl ?_
  refine g_iload_n (i := 3) (by decide +kernel) rfl ?_
  refine g_if_eq (off := 5) (tgt := 13) (by decide +kernel) (by decide) ⟨by omega, by omega⟩ (fun h8 => ?_) (fun h8 => ?_)
  · have h80 := zwa_0.mp h8
    refine g_aload_n (i := 0) (by decide +kernel) rfl ?_
    refine g_getr f_Nc_34 (by decide +kernel) (by omega) rfl rfl ?_
    refine g_iload_n (i := 2) (by decide +kernel) rfl ?_
    refine g_cVO (st := _) (c_Sg_at hn ho ⟨by omega, by omega⟩) k_Sg_at l_Nc_255 (by decide +kernel) (by omega) rfl rfl rfl rfl (Nat.le_of_ble_eq_true rfl) (by decide) ⟨by decide, by decide⟩ ?_
    rintro q τ1 ⟨eq, hA⟩
    subst eq
    refine g_iload_n (i := 1) (by decide +kernel) rfl ?_
    obtain ⟨k, rfl⟩ := Int.eq_ofNat_of_zero_le h80.2.1
    refine g_cVI (st := _) (c_Mo_runs (b := 34) (k := k) hn mo_34 (by omega) ((hA.on ho).mr.2 k (by omega)).1) k_Mo_runs l_Nc_373 (by decide +kernel) (by omega) rfl rfl rfl rfl (Nat.le_of_ble_eq_true rfl) (by decide) ⟨by decide, by decide⟩ ?_
    rintro a σ9 ⟨ea, hσ⟩
    obtain rfl := hσ.symm
    have ea : a = (if zv (zSv σ 1) t 1 k = 2 ∨ zv (zSv σ 1) t 1 k = 3 then 1 else 0) := by
      rw [ea, show τ1 (34 + 1) k = zv (zSv σ 1) t 1 k from hA.2.2.1 k (by omega) 1 (by decide) (by decide)]
    subst ea
    refine g_if_eq (off := 7) (tgt := 32) (by decide +kernel) (by decide) zbr (fun h25 => ?_) (fun h25 => ?_)
    · have h25 := zb0.mp h25
      refine g_bipush (a := 8) (by decide +kernel) (by decide) ?_
      refine g_retI (by decide +kernel) rfl (Or.inl rfl) ⟨by decide, by decide⟩ ?_
      refine ⟨?_, hA.on ho, hA.1⟩
      unfold zwr
      rw [e0, if_neg (fun q => q h8), Int.toNat_natCast]
      first
        | (have hz : ¬ (zv (zSv σ 1) t 1 k = 2 ∨ zv (zSv σ 1) t 1 k = 3) := h25
           rw [if_neg hz])
        | rw [if_pos h25]
    · have h25 := zb1.mp h25
      refine g_iconst (a := 0) (by decide +kernel) ?_
      refine g_goto (off := 5) (tgt := 34) (by decide +kernel) (by decide) ?_
      refine g_retI (by decide +kernel) rfl (Or.inl rfl) ⟨by decide, by decide⟩ ?_
      refine ⟨?_, hA.on ho, hA.1⟩
      unfold zwr
      rw [e0, if_neg (fun q => q h8), Int.toNat_natCast]
      first
        | (have hz : ¬ (zv (zSv σ 1) t 1 k = 2 ∨ zv (zSv σ 1) t 1 k = 3) := h25
           rw [if_neg hz])
        | rw [if_pos h25]
  · refine g_iload_n (i := 3) (by decide +kernel) rfl ?_
    refine g_retI (by decide +kernel) rfl (Or.inl rfl) ⟨by decide, by decide⟩ ?_
    exact ⟨by unfold zwr; rw [e0, if_pos h8], zLo.rf ho⟩
theorem c_Nc_local {G : zG} {n : Nat} {σ : zSt} {c t : Int} (hn : 189 ≤ n) (ho : zOn σ) (hR : zRs (σ 93)) (z1 : zr c) (z2 : zr t) : Gm G y_Nc_local m_Nc_local 6 0 0 [vr G 0, vi c, vi t] n SH σ (zI n SH (fun a σ' => zRes σ σ' a (zwr (zSv σ 1) t c) (zv (zSv σ 1) t 2 c.toNat))) := by
  refine g_enter (L := [(0, _), (1, _), (2, _)]) (by decide) rfl rfl rfl (Nat.le_of_ble_eq_true rfl) (fun X => ?_)
  have hc := ho.1.1
  obtain ⟨z1a, z1b⟩ := id z1
  obtain ⟨z2a, z2b⟩ := id z2
  refine g_aload_n (i := 0) (by decide +kernel) rfl ?_
  refine g_iload_n (i := 1) (by decide +kernel) rfl ?_
  refine g_iload_n (i := 2) (by decide +kernel) rfl ?_
  refine g_cVI (st := _) (c_Nc_whyNotRunning hn ho hR (by assumption) (by assumption)) k_Nc_whyNotRunning l_Nc_264 (by decide +kernel) (by omega) rfl rfl rfl rfl (Nat.le_of_ble_eq_true rfl) (by decide) ⟨by decide, by decide⟩ ?_
  rintro a τ ⟨ea, hL⟩
  subst ea
  have zw := @zwr_r (zSv σ 1) t c
  refine g_istore_n (i := 3) (L' := [(0, _), (1, _), (2, _), (3, _)]) (by decide +kernel) rfl rfl ?_
  refine g_iload_n (i := 3) (by decide +kernel) rfl ?_
  refine g_if_eq (off := 11) (tgt := 19) (by decide +kernel) (by decide) ⟨by omega, by omega⟩ (fun h8 => ?_) (fun h8 => ?_)
  · have h80 := zwr_0 h8
    have h81 : 0 ≤ c ∧ c < σ 1 0 := h80.2
    refine g_aload_n (i := 0) (by decide +kernel) rfl ?_
    refine g_aload_n (i := 0) (by decide +kernel) rfl ?_
    refine g_getr f_Nc_34 (by decide +kernel) (by omega) rfl rfl ?_
    refine g_iload_n (i := 2) (by decide +kernel) rfl ?_
    refine g_cVO (st := _) (c_Sg_at hn hL.1 ⟨by omega, by omega⟩) k_Sg_at l_Nc_255 (by decide +kernel) (by omega) rfl rfl rfl rfl (Nat.le_of_ble_eq_true rfl) (by decide) ⟨by decide, by decide⟩ ?_
    rintro q τ1 ⟨eq, hA⟩
    subst eq
    obtain ⟨hA, hL1⟩ := hL.at ho hA
    refine g_getr f_Nc_267 (by decide +kernel) (by omega) rfl rfl ?_
    refine g_iload_n (i := 1) (by decide +kernel) rfl ?_
    refine g_iald (j := c.toNat) (by decide +kernel) (by omega) rfl (by omega) (by omega) (by decide) ?_
    refine g_cVI (st := _) (c_Nc_give hn) k_Nc_give l_Nc_208 (by decide +kernel) (by omega) rfl rfl rfl rfl (Nat.le_of_ble_eq_true rfl) (by decide) ⟨by decide, by decide⟩ ?_
    rintro a9 σ9 ⟨ea9, hσ9⟩
    obtain rfl := ea9.symm
    subst hσ9
    refine g_retI (by decide +kernel) rfl (Or.inl rfl) ⟨by decide, by decide⟩ ?_
    first
      | exact zRes.no (hL.q hR) rfl h8
      | exact zRes.ok (hL1.q hR) h8 (hA.2.2.1 c.toNat (by omega) 2 (by decide) (by decide)).symm
  · refine g_aload_n (i := 0) (by decide +kernel) rfl ?_
    refine g_iload_n (i := 3) (by decide +kernel) rfl ?_
    refine g_cVI (st := _) (c_Nc_refuse hn) k_Nc_refuse l_Nc_97 (by decide +kernel) (by omega) rfl rfl rfl rfl (Nat.le_of_ble_eq_true rfl) (by decide) ⟨by decide, by decide⟩ ?_
    rintro a9 σ9 ⟨ea9, hσ9⟩
    obtain rfl := ea9.symm
    subst hσ9
    refine g_goto (off := 20) (tgt := 36) (by decide +kernel) (by decide) ?_
    refine g_retI (by decide +kernel) rfl (Or.inl rfl) ⟨by decide, by decide⟩ ?_
    first
      | exact zRes.no (hL.q hR) rfl h8
      | exact zRes.ok (hL1.q hR) h8 (hA.2.2.1 c.toNat (by omega) 2 (by decide) (by decide)).symm
theorem c_Nc_pass {G : zG} {n : Nat} {σ : zSt} {c t : Int} (hn : 189 ≤ n) (ho : zOn σ) (hR : zRs (σ 93)) (z1 : zr c) (z2 : zr t) : Gm G y_Nc_pass m_Nc_pass 6 0 0 [vr G 0, vi c, vi t] n SH σ (zI n SH (fun a σ' => zRes σ σ' a (zwr (zSv σ 1) t c) (zv (zSv σ 1) t 3 c.toNat))) := by
  refine g_enter (L := [(0, _), (1, _), (2, _)]) (by decide) rfl rfl rfl (Nat.le_of_ble_eq_true rfl) (fun X => ?_)
  have hc := ho.1.1
  obtain ⟨z1a, z1b⟩ := id z1
  obtain ⟨z2a, z2b⟩ := id z2
  refine g_aload_n (i := 0) (by decide +kernel) rfl ?_
  refine g_iload_n (i := 1) (by decide +kernel) rfl ?_
  refine g_iload_n (i := 2) (by decide +kernel) rfl ?_
  refine g_cVI (st := _) (c_Nc_whyNotRunning hn ho hR (by assumption) (by assumption)) k_Nc_whyNotRunning l_Nc_264 (by decide +kernel) (by omega) rfl rfl rfl rfl (Nat.le_of_ble_eq_true rfl) (by decide) ⟨by decide, by decide⟩ ?_
  rintro a τ ⟨ea, hL⟩
  subst ea
  have zw := @zwr_r (zSv σ 1) t c
  refine g_istore_n (i := 3) (L' := [(0, _), (1, _), (2, _), (3, _)]) (by decide +kernel) rfl rfl ?_
  refine g_iload_n (i := 3) (by decide +kernel) rfl ?_
  refine g_if_eq (off := 11) (tgt := 19) (by decide +kernel) (by decide) ⟨by omega, by omega⟩ (fun h8 => ?_) (fun h8 => ?_)
  · have h80 := zwr_0 h8
    have h81 : 0 ≤ c ∧ c < σ 1 0 := h80.2
    refine g_aload_n (i := 0) (by decide +kernel) rfl ?_
    refine g_aload_n (i := 0) (by decide +kernel) rfl ?_
    refine g_getr f_Nc_34 (by decide +kernel) (by omega) rfl rfl ?_
    refine g_iload_n (i := 2) (by decide +kernel) rfl ?_
    refine g_cVO (st := _) (c_Sg_at hn hL.1 ⟨by omega, by omega⟩) k_Sg_at l_Nc_255 (by decide +kernel) (by omega) rfl rfl rfl rfl (Nat.le_of_ble_eq_true rfl) (by decide) ⟨by decide, by decide⟩ ?_
    rintro q τ1 ⟨eq, hA⟩
    subst eq
    obtain ⟨hA, hL1⟩ := hL.at ho hA
    refine g_getr f_Nc_270 (by decide +kernel) (by omega) rfl rfl ?_
    refine g_iload_n (i := 1) (by decide +kernel) rfl ?_
    refine g_iald (j := c.toNat) (by decide +kernel) (by omega) rfl (by omega) (by omega) (by decide) ?_
    refine g_cVI (st := _) (c_Nc_give hn) k_Nc_give l_Nc_208 (by decide +kernel) (by omega) rfl rfl rfl rfl (Nat.le_of_ble_eq_true rfl) (by decide) ⟨by decide, by decide⟩ ?_
    rintro a9 σ9 ⟨ea9, hσ9⟩
    obtain rfl := ea9.symm
    subst hσ9
    refine g_retI (by decide +kernel) rfl (Or.inl rfl) ⟨by decide, by decide⟩ ?_
    first
      | exact zRes.no (hL.q hR) rfl h8
      | exact zRes.ok (hL1.q hR) h8 (hA.2.2.1 c.toNat (by omega) 3 (by decide) (by decide)).symm
  · refine g_aload_n (i := 0) (by decide +kernel) rfl ?_
    refine g_iload_n (i := 3) (by decide +kernel) rfl ?_
    refine g_cVI (st := _) (c_Nc_refuse hn) k_Nc_refuse l_Nc_97 (by decide +kernel) (by omega) rfl rfl rfl rfl (Nat.le_of_ble_eq_true rfl) (by decide) ⟨by decide, by decide⟩ ?_
    rintro a9 σ9 ⟨ea9, hσ9⟩
    obtain rfl := ea9.symm
    subst hσ9
    refine g_goto (off := 20) (tgt := 36) (by decide +kernel) (by decide) ?_
    refine g_retI (by decide +kernel) rfl (Or.inl rfl) ⟨by decide, by decide⟩ ?_
    first
      | exact zRes.no (hL.q hR) rfl h8
      | exact zRes.ok (hL1.q hR) h8 (hA.2.2.1 c.toNat (by omega) 3 (by decide) (by decide)).symm
theorem w_Nc_seen {G : zG} {X : zX} {n : Nat} {σ : zSt} {c x2 : Int} (hn : 189 ≤ n) (ho : zOn σ) (hR : zRs (σ 93)) (h7 : zwl (zSv σ 1) c = 0) : ∀ (m : Nat) (t : Nat) (x3 x4 : Int) (τ : zSt), x4 = (t : Int) → x3 = (zcnt (fun s => decide (0 < zv (zSv σ 1) (s : Int) 7 c.toNat)) t : Int) → zLo σ τ → t ≤ 2000 → 2000 < t + m → Go G X m_Nc_seen (5, 0, 0, 0, 0) n SH τ 21 [(0, vr G 0), (1, vi c), (2, vi x2), (3, vi x3), (4, vi x4)] [] (zI n SH (fun a σ' => zRes σ σ' a (zwl (zSv σ 1) c) (zcnt (fun s => decide (0 < zv (zSv σ 1) (s : Int) 7 c.toNat)) 2000 : Int))) := by
  intro m
  induction m with
  | zero => intro t x3 x4 τ e4 e3 hL ht hm; exact absurd hm (by omega)
  | succ m ih =>
    intro t x3 x4 τ e4 e3 hL ht hm
    have hc := ho.1.1
    obtain ⟨h71, h72⟩ := zwl_0.mp h7
    have h71 : 0 ≤ c ∧ c < σ 1 0 := h71
    have h72 : σ 2 c.toNat = 0 := h72
    subst e4
    refine g_iload (i := 4) (by decide +kernel) rfl ?_
    refine g_sipush (a := 1999) (by decide +kernel) (by decide) ?_
    refine g_icmp_gt (off := 29) (tgt := 55) (by decide +kernel) (by decide) ⟨by omega, by omega⟩ ⟨by omega, by omega⟩ (fun h26 => ?_) (fun h26 => ?_)
    · refine g_aload_n (i := 0) (by decide +kernel) rfl ?_
      refine g_iload_n (i := 3) (by decide +kernel) rfl ?_
      refine g_cVI (st := _) (c_Nc_give hn) k_Nc_give l_Nc_208 (by decide +kernel) (by omega) rfl rfl rfl rfl (Nat.le_of_ble_eq_true rfl) (by decide) ⟨by decide, by decide⟩ ?_
      rintro a9 σ9 ⟨ea9, hσ9⟩
      obtain rfl := ea9.symm
      subst hσ9
      refine g_retI (by decide +kernel) rfl (Or.inl rfl) ⟨by decide, by decide⟩ ?_
      refine zRes.ok (hL.q hR) h7 ?_
      rw [e3, show t = 2000 by omega]
    · refine g_aload_n (i := 0) (by decide +kernel) rfl ?_
      refine g_getr f_Nc_34 (by decide +kernel) (by omega) rfl rfl ?_
      refine g_iload (i := 4) (by decide +kernel) rfl ?_
      refine g_cVO (st := _) (c_Sg_at (t := (t : Int)) hn hL.1 ⟨by omega, by omega⟩) k_Sg_at l_Nc_255 (by decide +kernel) (by omega) rfl rfl rfl rfl (Nat.le_of_ble_eq_true rfl) (by decide) ⟨by decide, by decide⟩ ?_
      rintro q τ1 ⟨eq, hA⟩
      subst eq
      obtain ⟨hA, hL1⟩ := hL.at ho hA
      have e7 : τ1 41 c.toNat = zv (zSv σ 1) (t : Int) 7 c.toNat := hA.2.2.2.1 c.toNat (by omega) h72
      have m7 : 0 ≤ τ1 41 c.toNat ∧ τ1 41 c.toNat ≤ 100 := (hL1.1.mr.2 c.toNat (by omega)).2.2.2.2.2.2
      refine g_getr f_Nc_280 (by decide +kernel) (by omega) rfl rfl ?_
      refine g_iload_n (i := 1) (by decide +kernel) rfl ?_
      refine g_iald (j := c.toNat) (by decide +kernel) (by omega) rfl (by omega) (by omega) (by decide) ?_
      refine g_if_le (off := 6) (tgt := 49) (by decide +kernel) (by decide) ⟨by omega, by omega⟩ (fun h43 => ?_) (fun h43 => ?_)
      · have e3 : x3 = (zcnt (fun s => decide (0 < zv (zSv σ 1) (s : Int) 7 c.toNat)) (t + 1) : Int) := by rw [zcnt_f (decide_eq_false (by rw [← e7]; omega)), e3]
        refine g_iinc (i := 4) (b := 1) (L' := [(0, _), (1, _), (2, _), (3, _), (4, _)]) (by decide +kernel) rfl rfl rfl ?_
        refine g_goto (off := -31) (tgt := 21) (by decide +kernel) (by decide) ?_
        exact ih (t + 1) _ _ _ (by push_cast; rfl) e3 hL1 (by omega) (by omega)
      · have e3 : x3 + 1 = (zcnt (fun s => decide (0 < zv (zSv σ 1) (s : Int) 7 c.toNat)) (t + 1) : Int) := by rw [zcnt_t (decide_eq_true (by rw [← e7]; exact h43)), e3]; push_cast; rfl
        refine g_iinc (i := 3) (b := 1) (L' := [(0, _), (1, _), (2, _), (3, _), (4, _)]) (by decide +kernel) rfl rfl rfl ?_
        refine g_iinc (i := 4) (b := 1) (L' := [(0, _), (1, _), (2, _), (3, _), (4, _)]) (by decide +kernel) rfl rfl rfl ?_
        refine g_goto (off := -31) (tgt := 21) (by decide +kernel) (by decide) ?_
        exact ih (t + 1) _ _ _ (by push_cast; rfl) e3 hL1 (by omega) (by omega)
theorem c_Nc_seen {G : zG} {n : Nat} {σ : zSt} {c : Int} (hn : 189 ≤ n) (ho : zOn σ) (hR : zRs (σ 93)) (z1 : zr c) : Gm G y_Nc_seen m_Nc_seen 5 0 0 [vr G 0, vi c] n SH σ (zI n SH (fun a σ' => zRes σ σ' a (zwl (zSv σ 1) c) (zcnt (fun s => decide (0 < zv (zSv σ 1) (s : Int) 7 c.toNat)) 2000 : Int))) := by
  refine g_enter (L := [(0, _), (1, _)]) (by decide) rfl rfl rfl (Nat.le_of_ble_eq_true rfl) (fun X => ?_)
  have hc := ho.1.1
  obtain ⟨z1a, z1b⟩ := id z1
  refine g_aload_n (i := 0) (by decide +kernel) rfl ?_
  refine g_iload_n (i := 1) (by decide +kernel) rfl ?_
  refine g_cVI (st := _) (c_Nc_whyNoLeaf hn ho hR (by assumption)) k_Nc_whyNoLeaf l_Nc_289 (by decide +kernel) (by omega) rfl rfl rfl rfl (Nat.le_of_ble_eq_true rfl) (by decide) ⟨by decide, by decide⟩ ?_
  rintro a σ9 ⟨ea, hσ⟩
  obtain rfl := hσ.symm
  subst ea
  have zw := @zwl_r (zSv σ 1) c
  refine g_istore_n (i := 2) (L' := [(0, _), (1, _), (2, _)]) (by decide +kernel) rfl rfl ?_
  refine g_iload_n (i := 2) (by decide +kernel) rfl ?_
  refine g_if_eq (off := 9) (tgt := 16) (by decide +kernel) (by decide) ⟨by omega, by omega⟩ (fun h7 => ?_) (fun h7 => ?_)
  · refine g_iconst (a := 0) (by decide +kernel) ?_
    refine g_istore_n (i := 3) (L' := [(0, _), (1, _), (2, _), (3, _)]) (by decide +kernel) rfl rfl ?_
    refine g_iconst (a := 0) (by decide +kernel) ?_
    refine g_istore (i := 4) (L' := [(0, _), (1, _), (2, _), (3, _), (4, _)]) (by decide +kernel) rfl rfl ?_
    exact w_Nc_seen hn ho hR h7 2001 0 _ _ σ rfl rfl (zLo.rf ho) (by omega) (by omega)
  · refine g_aload_n (i := 0) (by decide +kernel) rfl ?_
    refine g_iload_n (i := 2) (by decide +kernel) rfl ?_
    refine g_cVI (st := _) (c_Nc_refuse hn) k_Nc_refuse l_Nc_97 (by decide +kernel) (by omega) rfl rfl rfl rfl (Nat.le_of_ble_eq_true rfl) (by decide) ⟨by decide, by decide⟩ ?_
    rintro a9 σ9 ⟨ea9, hσ9⟩
    obtain rfl := ea9.symm
    subst hσ9
    refine g_retI (by decide +kernel) rfl (Or.inl rfl) ⟨by decide, by decide⟩ ?_
    exact zRes.no (zQf.rf ho hR) rfl h7
/-- the greatest of f below t, and where it is first: (greatest, where) -/
def zgr (f : Nat → Int) (a : Int) : Nat → Int × Int
  | 0 => (0, a)
  | t + 1 => if (zgr f a t).1 < f t then (f t, (t : Int)) else zgr f a t
theorem zgr_s (f : Nat → Int) (a : Int) (t : Nat) : zgr f a (t + 1) = if (zgr f a t).1 < f t then (f t, (t : Int)) else zgr f a t := rfl
theorem zgr_in {f : Nat → Int} {a : Int} (ha : -1 ≤ a ∧ a ≤ 0) : ∀ t, -1 ≤ (zgr f a t).2 ∧ (zgr f a t).2 ≤ t
  | 0 => ⟨ha.1, ha.2⟩
  | t + 1 => by
    have q := zgr_in (f := f) ha t
    rw [zgr_s]
    split
    · exact ⟨by show -1 ≤ (t : Int); omega, by show (t : Int) ≤ _; push_cast; omega⟩
    · exact ⟨q.1, by push_cast; omega⟩
theorem w_Nc_brightest {G : zG} {X : zX} {n : Nat} {σ : zSt} {c x2 : Int} (hn : 189 ≤ n) (ho : zOn σ) (hR : zRs (σ 93)) (h7 : zwl (zSv σ 1) c = 0) : ∀ (m : Nat) (t : Nat) (x3 x4 x5 : Int) (τ : zSt), x5 = (t : Int) → (x3, x4) = zgr (fun s => zv (zSv σ 1) (s : Int) 7 c.toNat) (-1) t → (0 ≤ x3 ∧ x3 ≤ 100) → zLo σ τ → t ≤ 2000 → 2000 < t + m → Go G X m_Nc_brightest (5, 0, 0, 0, 0) n SH τ 24 [(0, vr G 0), (1, vi c), (2, vi x2), (3, vi x3), (4, vi x4), (5, vi x5)] [] (zI n SH (fun a σ' => zRes σ σ' a (if zwl (zSv σ 1) c ≠ 0 then zwl (zSv σ 1) c else if (zgr (fun s => zv (zSv σ 1) (s : Int) 7 c.toNat) (-1) 2000).2 = -1 then 8 else 0) (zgr (fun s => zv (zSv σ 1) (s : Int) 7 c.toNat) (-1) 2000).2)) := by
  intro m
  induction m with
  | zero => intro t x3 x4 x5 τ e5 e3 hx hL ht hm; exact absurd hm (by omega)
  | succ m ih =>
    intro t x3 x4 x5 τ e5 e3 hx hL ht hm
    have hc := ho.1.1
    obtain ⟨h71, h72⟩ := zwl_0.mp h7
    have h71 : 0 ≤ c ∧ c < σ 1 0 := h71
    have h72 : σ 2 c.toNat = 0 := h72
    have b4 := zgr_in (f := (fun s => zv (zSv σ 1) (s : Int) 7 c.toNat)) (a := -1) (by decide) t
    rw [← e3] at b4
    have b4 : -1 ≤ x4 ∧ x4 ≤ (t : Int) := b4
    subst e5
    refine g_iload (i := 5) (by decide +kernel) rfl ?_
    refine g_sipush (a := 1999) (by decide +kernel) (by decide) ?_
    refine g_icmp_gt (off := 38) (tgt := 67) (by decide +kernel) (by decide) ⟨by omega, by omega⟩ ⟨by omega, by omega⟩ (fun h29 => ?_) (fun h29 => ?_)
    · refine g_iload (i := 4) (by decide +kernel) rfl ?_
      refine g_iconst (a := -1) (by decide +kernel) ?_
      refine g_icmp_ne (off := 12) (tgt := 82) (by decide +kernel) (by decide) ⟨by omega, by omega⟩ ⟨by omega, by omega⟩ (fun h70 => ?_) (fun h70 => ?_)
      · refine g_aload_n (i := 0) (by decide +kernel) rfl ?_
        refine g_iload (i := 4) (by decide +kernel) rfl ?_
        refine g_cVI (st := _) (c_Nc_give hn) k_Nc_give l_Nc_208 (by decide +kernel) (by omega) rfl rfl rfl rfl (Nat.le_of_ble_eq_true rfl) (by decide) ⟨by decide, by decide⟩ ?_
        rintro a9 σ9 ⟨ea9, hσ9⟩
        obtain rfl := ea9.symm
        subst hσ9
        refine g_retI (by decide +kernel) rfl (Or.inl rfl) ⟨by decide, by decide⟩ ?_
        rw [show t = 2000 by omega] at e3
        have e2 : x4 = (zgr (fun s => zv (zSv σ 1) (s : Int) 7 c.toNat) (-1) 2000).2 := congrArg Prod.snd e3
        first
          | (have hz : x4 = -1 := h70
             exact zRes.no (hL.q hR) (by rw [if_neg (fun q => q h7), if_pos (by rw [← e2]; exact hz)]) (by decide))
          | (have hz : ¬ x4 = -1 := h70
             exact zRes.ok (hL.q hR) (by rw [if_neg (fun q => q h7), if_neg (by rw [← e2]; exact hz)]) e2.symm)
      · refine g_aload_n (i := 0) (by decide +kernel) rfl ?_
        refine g_bipush (a := 8) (by decide +kernel) (by decide) ?_
        refine g_cVI (st := _) (c_Nc_refuse hn) k_Nc_refuse l_Nc_97 (by decide +kernel) (by omega) rfl rfl rfl rfl (Nat.le_of_ble_eq_true rfl) (by decide) ⟨by decide, by decide⟩ ?_
        rintro a9 σ9 ⟨ea9, hσ9⟩
        obtain rfl := ea9.symm
        subst hσ9
        refine g_goto (off := 9) (tgt := 88) (by decide +kernel) (by decide) ?_
        refine g_retI (by decide +kernel) rfl (Or.inl rfl) ⟨by decide, by decide⟩ ?_
        rw [show t = 2000 by omega] at e3
        have e2 : x4 = (zgr (fun s => zv (zSv σ 1) (s : Int) 7 c.toNat) (-1) 2000).2 := congrArg Prod.snd e3
        first
          | (have hz : x4 = -1 := h70
             exact zRes.no (hL.q hR) (by rw [if_neg (fun q => q h7), if_pos (by rw [← e2]; exact hz)]) (by decide))
          | (have hz : ¬ x4 = -1 := h70
             exact zRes.ok (hL.q hR) (by rw [if_neg (fun q => q h7), if_neg (by rw [← e2]; exact hz)]) e2.symm)
    · refine g_aload_n (i := 0) (by decide +kernel) rfl ?_
      refine g_getr f_Nc_34 (by decide +kernel) (by omega) rfl rfl ?_
      refine g_iload (i := 5) (by decide +kernel) rfl ?_
      refine g_cVO (st := _) (c_Sg_at (t := (t : Int)) hn hL.1 ⟨by omega, by omega⟩) k_Sg_at l_Nc_255 (by decide +kernel) (by omega) rfl rfl rfl rfl (Nat.le_of_ble_eq_true rfl) (by decide) ⟨by decide, by decide⟩ ?_
      rintro q τ1 ⟨eq, hA⟩
      subst eq
      obtain ⟨hA, hL1⟩ := hL.at ho hA
      have e7 : τ1 41 c.toNat = zv (zSv σ 1) (t : Int) 7 c.toNat := hA.2.2.2.1 c.toNat (by omega) h72
      have m7 : 0 ≤ τ1 41 c.toNat ∧ τ1 41 c.toNat ≤ 100 := (hL1.1.mr.2 c.toNat (by omega)).2.2.2.2.2.2
      refine g_getr f_Nc_280 (by decide +kernel) (by omega) rfl rfl ?_
      refine g_iload_n (i := 1) (by decide +kernel) rfl ?_
      refine g_iald (j := c.toNat) (by decide +kernel) (by omega) rfl (by omega) (by omega) (by decide) ?_
      refine g_istore (i := 6) (L' := [(0, _), (1, _), (2, _), (3, _), (4, _), (5, _), (6, _)]) (by decide +kernel) rfl rfl ?_
      refine g_iload (i := 6) (by decide +kernel) rfl ?_
      refine g_iload_n (i := 3) (by decide +kernel) rfl ?_
      refine g_icmp_le (off := 10) (tgt := 61) (by decide +kernel) (by decide) ⟨by omega, by omega⟩ ⟨by omega, by omega⟩ (fun h51 => ?_) (fun h51 => ?_)
      · have e3 : (x3, x4) = zgr (fun s => zv (zSv σ 1) (s : Int) 7 c.toNat) (-1) (t + 1) := by rw [zgr_s, ← e3, if_neg (by rw [← e7]; show ¬ x3 < _; omega)]
        refine g_iinc (i := 5) (b := 1) (L' := [(0, _), (1, _), (2, _), (3, _), (4, _), (5, _), (6, _)]) (by decide +kernel) rfl rfl rfl ?_
        refine g_goto (off := -40) (tgt := 24) (by decide +kernel) (by decide) ?_
        exact g_less [0, 1, 2, 3, 4, 5] rfl (ih (t + 1) _ _ _ _ (by push_cast; rfl) e3 hx hL1 (by omega) (by omega))
      · have e3 : (τ1 41 c.toNat, (t : Int)) = zgr (fun s => zv (zSv σ 1) (s : Int) 7 c.toNat) (-1) (t + 1) := by rw [zgr_s, ← e3, if_pos (by rw [← e7]; exact h51), ← e7]
        have hx := m7
        refine g_iload (i := 6) (by decide +kernel) rfl ?_
        refine g_istore_n (i := 3) (L' := [(0, _), (1, _), (2, _), (3, _), (4, _), (5, _), (6, _)]) (by decide +kernel) rfl rfl ?_
        refine g_iload (i := 5) (by decide +kernel) rfl ?_
        refine g_istore (i := 4) (L' := [(0, _), (1, _), (2, _), (3, _), (4, _), (5, _), (6, _)]) (by decide +kernel) rfl rfl ?_
        refine g_iinc (i := 5) (b := 1) (L' := [(0, _), (1, _), (2, _), (3, _), (4, _), (5, _), (6, _)]) (by decide +kernel) rfl rfl rfl ?_
        refine g_goto (off := -40) (tgt := 24) (by decide +kernel) (by decide) ?_
        exact g_less [0, 1, 2, 3, 4, 5] rfl (ih (t + 1) _ _ _ _ (by push_cast; rfl) e3 hx hL1 (by omega) (by omega))
theorem c_Nc_brightest {G : zG} {n : Nat} {σ : zSt} {c : Int} (hn : 189 ≤ n) (ho : zOn σ) (hR : zRs (σ 93)) (z1 : zr c) : Gm G y_Nc_brightest m_Nc_brightest 5 0 0 [vr G 0, vi c] n SH σ (zI n SH (fun a σ' => zRes σ σ' a (if zwl (zSv σ 1) c ≠ 0 then zwl (zSv σ 1) c else if (zgr (fun s => zv (zSv σ 1) (s : Int) 7 c.toNat) (-1) 2000).2 = -1 then 8 else 0) (zgr (fun s => zv (zSv σ 1) (s : Int) 7 c.toNat) (-1) 2000).2)) := by
  refine g_enter (L := [(0, _), (1, _)]) (by decide) rfl rfl rfl (Nat.le_of_ble_eq_true rfl) (fun X => ?_)
  have hc := ho.1.1
  obtain ⟨z1a, z1b⟩ := id z1
  refine g_aload_n (i := 0) (by decide +kernel) rfl ?_
  refine g_iload_n (i := 1) (by decide +kernel) rfl ?_
  refine g_cVI (st := _) (c_Nc_whyNoLeaf hn ho hR (by assumption)) k_Nc_whyNoLeaf l_Nc_289 (by decide +kernel) (by omega) rfl rfl rfl rfl (Nat.le_of_ble_eq_true rfl) (by decide) ⟨by decide, by decide⟩ ?_
  rintro a σ9 ⟨ea, hσ⟩
  obtain rfl := hσ.symm
  subst ea
  have zw := @zwl_r (zSv σ 1) c
  refine g_istore_n (i := 2) (L' := [(0, _), (1, _), (2, _)]) (by decide +kernel) rfl rfl ?_
  refine g_iload_n (i := 2) (by decide +kernel) rfl ?_
  refine g_if_eq (off := 9) (tgt := 16) (by decide +kernel) (by decide) ⟨by omega, by omega⟩ (fun h7 => ?_) (fun h7 => ?_)
  · refine g_iconst (a := 0) (by decide +kernel) ?_
    refine g_istore_n (i := 3) (L' := [(0, _), (1, _), (2, _), (3, _)]) (by decide +kernel) rfl rfl ?_
    refine g_iconst (a := -1) (by decide +kernel) ?_
    refine g_istore (i := 4) (L' := [(0, _), (1, _), (2, _), (3, _), (4, _)]) (by decide +kernel) rfl rfl ?_
    refine g_iconst (a := 0) (by decide +kernel) ?_
    refine g_istore (i := 5) (L' := [(0, _), (1, _), (2, _), (3, _), (4, _), (5, _)]) (by decide +kernel) rfl rfl ?_
    exact w_Nc_brightest hn ho hR h7 2001 0 _ _ _ σ rfl rfl (by omega) (zLo.rf ho) (by omega) (by omega)
  · refine g_aload_n (i := 0) (by decide +kernel) rfl ?_
    refine g_iload_n (i := 2) (by decide +kernel) rfl ?_
    refine g_cVI (st := _) (c_Nc_refuse hn) k_Nc_refuse l_Nc_97 (by decide +kernel) (by omega) rfl rfl rfl rfl (Nat.le_of_ble_eq_true rfl) (by decide) ⟨by decide, by decide⟩ ?_
    rintro a9 σ9 ⟨ea9, hσ9⟩
    obtain rfl := ea9.symm
    subst hσ9
    refine g_retI (by decide +kernel) rfl (Or.inl rfl) ⟨by decide, by decide⟩ ?_
    exact zRes.no (zQf.rf ho hR) (if_pos h7) h7
theorem w_Nc_timesOfBoth {G : zG} {X : zX} {n : Nat} {σ : zSt} {c d : Nat} (hn : 189 ≤ n) (ho : zOn σ) (hR : zRs (σ 93)) (hk : c < (σ 1 0).toNat) (hd : d < (σ 1 0).toNat) : ∀ (m : Nat) (t : Nat) (x3 x4 : Int) (τ : zSt), x4 = (t : Int) → x3 = (zcnt (fun s => decide (zv (zSv σ 1) (s : Int) 1 c = 2 ∧ zv (zSv σ 1) (s : Int) 1 d = 2)) t : Int) → zLo σ τ → t ≤ 2000 → 2000 < t + m → Go G X m_Nc_timesOfBoth (5, 0, 0, 0, 0) n SH τ 5 [(0, vr G 0), (1, vi (c : Int)), (2, vi (d : Int)), (3, vi x3), (4, vi x4)] [] (zI n SH (fun a σ' => zLo σ σ' ∧ a = (zcnt (fun s => decide (zv (zSv σ 1) (s : Int) 1 c = 2 ∧ zv (zSv σ 1) (s : Int) 1 d = 2)) 2000 : Int))) := by
  intro m
  induction m with
  | zero => intro t x3 x4 τ e4 e3 hL ht hm; exact absurd hm (by omega)
  | succ m ih =>
    intro t x3 x4 τ e4 e3 hL ht hm
    have hc := ho.1.1
    subst e4
    refine g_iload (i := 4) (by decide +kernel) rfl ?_
    refine g_sipush (a := 1999) (by decide +kernel) (by decide) ?_
    refine g_icmp_gt (off := 45) (tgt := 55) (by decide +kernel) (by decide) ⟨by omega, by omega⟩ ⟨by omega, by omega⟩ (fun h10 => ?_) (fun h10 => ?_)
    · refine g_iload_n (i := 3) (by decide +kernel) rfl ?_
      refine g_retI (by decide +kernel) rfl (Or.inl rfl) ⟨by decide, by decide⟩ ?_
      exact ⟨hL, by rw [e3, show t = 2000 by omega]⟩
    · refine g_aload_n (i := 0) (by decide +kernel) rfl ?_
      refine g_getr f_Nc_34 (by decide +kernel) (by omega) rfl rfl ?_
      refine g_iload (i := 4) (by decide +kernel) rfl ?_
      refine g_cVO (st := _) (c_Sg_at (t := (t : Int)) hn hL.1 ⟨by omega, by omega⟩) k_Sg_at l_Nc_255 (by decide +kernel) (by omega) rfl rfl rfl rfl (Nat.le_of_ble_eq_true rfl) (by decide) ⟨by decide, by decide⟩ ?_
      rintro q τ1 ⟨eq, hA⟩
      subst eq
      obtain ⟨hA, hL1⟩ := hL.at ho hA
      have e7 : τ1 35 c = zv (zSv σ 1) (t : Int) 1 c := hA.2.2.1 c hk 1 (by decide) (by decide)
      have e8 : τ1 35 d = zv (zSv σ 1) (t : Int) 1 d := hA.2.2.1 d hd 1 (by decide) (by decide)
      have m7 : 0 ≤ τ1 35 c ∧ τ1 35 c ≤ 4 := (hL1.1.mr.2 c (by omega)).1
      have m8 : 0 ≤ τ1 35 d ∧ τ1 35 d ≤ 4 := (hL1.1.mr.2 d (by omega)).1
      refine g_astore (i := 5) (L' := [(0, _), (1, _), (2, _), (3, _), (4, _), (5, _)]) (by decide +kernel) rfl rfl ?_
      refine g_aload (i := 5) (by decide +kernel) rfl ?_
      refine g_getr f_Nc_259 (by decide +kernel) (by omega) rfl rfl ?_
      refine g_iload_n (i := 1) (by decide +kernel) rfl ?_
      refine g_iald (j := c) (by decide +kernel) (by omega) rfl rfl (by omega) (by decide) ?_
      refine g_iconst (a := 2) (by decide +kernel) ?_
      refine g_icmp_ne (off := 17) (tgt := 49) (by decide +kernel) (by decide) ⟨by omega, by omega⟩ ⟨by omega, by omega⟩ (fun h32 => ?_) (fun h32 => ?_)
      · have e3 : x3 = (zcnt (fun s => decide (zv (zSv σ 1) (s : Int) 1 c = 2 ∧ zv (zSv σ 1) (s : Int) 1 d = 2)) (t + 1) : Int) := by rw [zcnt_f (decide_eq_false (fun q => h32 (by rw [e7]; exact q.1))), e3]
        refine g_iinc (i := 4) (b := 1) (L' := [(0, _), (1, _), (2, _), (3, _), (4, _), (5, _)]) (by decide +kernel) rfl rfl rfl ?_
        refine g_goto (off := -47) (tgt := 5) (by decide +kernel) (by decide) ?_
        exact g_less [0, 1, 2, 3, 4] rfl (ih (t + 1) _ _ _ (by push_cast; rfl) e3 hL1 (by omega) (by omega))
      · refine g_aload (i := 5) (by decide +kernel) rfl ?_
        refine g_getr f_Nc_259 (by decide +kernel) (by omega) rfl rfl ?_
        refine g_iload_n (i := 2) (by decide +kernel) rfl ?_
        refine g_iald (j := d) (by decide +kernel) (by omega) rfl rfl (by omega) (by decide) ?_
        refine g_iconst (a := 2) (by decide +kernel) ?_
        refine g_icmp_ne (off := 6) (tgt := 49) (by decide +kernel) (by decide) ⟨by omega, by omega⟩ ⟨by omega, by omega⟩ (fun h43 => ?_) (fun h43 => ?_)
        · have e3 : x3 = (zcnt (fun s => decide (zv (zSv σ 1) (s : Int) 1 c = 2 ∧ zv (zSv σ 1) (s : Int) 1 d = 2)) (t + 1) : Int) := by rw [zcnt_f (decide_eq_false (fun q => h43 (by rw [e8]; exact q.2))), e3]
          refine g_iinc (i := 4) (b := 1) (L' := [(0, _), (1, _), (2, _), (3, _), (4, _), (5, _)]) (by decide +kernel) rfl rfl rfl ?_
          refine g_goto (off := -47) (tgt := 5) (by decide +kernel) (by decide) ?_
          exact g_less [0, 1, 2, 3, 4] rfl (ih (t + 1) _ _ _ (by push_cast; rfl) e3 hL1 (by omega) (by omega))
        · have e3 : x3 + 1 = (zcnt (fun s => decide (zv (zSv σ 1) (s : Int) 1 c = 2 ∧ zv (zSv σ 1) (s : Int) 1 d = 2)) (t + 1) : Int) := by rw [zcnt_t (decide_eq_true ⟨by rw [← e7]; exact h32, by rw [← e8]; exact h43⟩), e3]; push_cast; rfl
          refine g_iinc (i := 3) (b := 1) (L' := [(0, _), (1, _), (2, _), (3, _), (4, _), (5, _)]) (by decide +kernel) rfl rfl rfl ?_
          refine g_iinc (i := 4) (b := 1) (L' := [(0, _), (1, _), (2, _), (3, _), (4, _), (5, _)]) (by decide +kernel) rfl rfl rfl ?_
          refine g_goto (off := -47) (tgt := 5) (by decide +kernel) (by decide) ?_
          exact g_less [0, 1, 2, 3, 4] rfl (ih (t + 1) _ _ _ (by push_cast; rfl) e3 hL1 (by omega) (by omega))
theorem c_Nc_timesOfBoth {G : zG} {n : Nat} {σ : zSt} {c d : Nat} (hn : 189 ≤ n) (ho : zOn σ) (hR : zRs (σ 93)) (hk : c < (σ 1 0).toNat) (hd : d < (σ 1 0).toNat) : Gm G y_Nc_timesOfBoth m_Nc_timesOfBoth 5 0 0 [vr G 0, vi (c : Int), vi (d : Int)] n SH σ (zI n SH (fun a σ' => zLo σ σ' ∧ a = (zcnt (fun s => decide (zv (zSv σ 1) (s : Int) 1 c = 2 ∧ zv (zSv σ 1) (s : Int) 1 d = 2)) 2000 : Int))) := by
  refine g_enter (L := [(0, _), (1, _), (2, _)]) (by decide) rfl rfl rfl (Nat.le_of_ble_eq_true rfl) (fun X => ?_)
  refine g_iconst (a := 0) (by decide +kernel) ?_
  refine g_istore_n (i := 3) (L' := [(0, _), (1, _), (2, _), (3, _)]) (by decide +kernel) rfl rfl ?_
  refine g_iconst (a := 0) (by decide +kernel) ?_
  refine g_istore (i := 4) (L' := [(0, _), (1, _), (2, _), (3, _), (4, _)]) (by decide +kernel) rfl rfl ?_
  exact w_Nc_timesOfBoth hn ho hR hk hd 2001 0 _ _ σ rfl rfl (zLo.rf ho) (by omega) (by omega)
theorem c_Nc_ticks {G : zG} {n : Nat} {σ : zSt} {c : Int} (hn : 189 ≤ n) (ho : zOn σ) (hR : zRs (σ 93)) (z1 : zr c) : Gm G y_Nc_ticks m_Nc_ticks 6 0 0 [vr G 0, vi c] n SH σ (zI n SH (fun a σ' => zRes σ σ' a (if 0 ≤ c ∧ c < σ 1 0 then 0 else 2) (zcnt (fun s => decide (zv (zSv σ 1) (s : Int) 1 c.toNat = 2 ∧ zv (zSv σ 1) (s : Int) 1 c.toNat = 2)) 2000 : Int))) := by
  refine g_enter (L := [(0, _), (1, _)]) (by decide) rfl rfl rfl (Nat.le_of_ble_eq_true rfl) (fun X => ?_)
  have hc := ho.1.1
  obtain ⟨z1a, z1b⟩ := id z1
  refine g_aload_n (i := 0) (by decide +kernel) rfl ?_
  refine g_getr f_Nc_10 (by decide +kernel) (by omega) rfl rfl ?_
  refine g_iload_n (i := 1) (by decide +kernel) rfl ?_
  refine g_cVI (st := _) (c_Sh_has (b := 1) hn sh_1 (by assumption) ⟨hc.1, hc.2.1⟩) k_Sh_has l_Nc_117 (by decide +kernel) (by omega) rfl rfl rfl rfl (Nat.le_of_ble_eq_true rfl) (by decide) ⟨by decide, by decide⟩ ?_
  rintro a σ9 ⟨ea, hσ⟩
  obtain rfl := hσ.symm
  subst ea
  refine g_if_eq (off := 16) (tgt := 24) (by decide +kernel) (by decide) zbr (fun h8 => ?_) (fun h8 => ?_)
  · have h8 := zb0.mp h8
    refine g_aload_n (i := 0) (by decide +kernel) rfl ?_
    refine g_iconst (a := 2) (by decide +kernel) ?_
    refine g_cVI (st := _) (c_Nc_refuse hn) k_Nc_refuse l_Nc_97 (by decide +kernel) (by omega) rfl rfl rfl rfl (Nat.le_of_ble_eq_true rfl) (by decide) ⟨by decide, by decide⟩ ?_
    rintro a9 σ9 ⟨ea9, hσ9⟩
    obtain rfl := ea9.symm
    subst hσ9
    refine g_retI (by decide +kernel) rfl (Or.inl rfl) ⟨by decide, by decide⟩ ?_
    first
      | (have hz : ¬ (0 ≤ c ∧ c < σ 1 0) := h8
         exact zRes.no (zQf.rf ho hR) (if_neg hz) (by decide))
      | exact zRes.ok (hL.q hR) (if_pos h8) (by rw [Int.toNat_natCast]; exact ea.symm)
  · have h8 := zb1.mp h8
    refine g_aload_n (i := 0) (by decide +kernel) rfl ?_
    refine g_aload_n (i := 0) (by decide +kernel) rfl ?_
    refine g_iload_n (i := 1) (by decide +kernel) rfl ?_
    refine g_iload_n (i := 1) (by decide +kernel) rfl ?_
    obtain ⟨k, rfl⟩ := Int.eq_ofNat_of_zero_le h8.1
    refine g_cVI (st := _) (c_Nc_timesOfBoth (c := k) (d := k) hn ho hR (by omega) (by omega)) k_Nc_timesOfBoth l_Nc_328 (by decide +kernel) (by omega) rfl rfl rfl rfl (Nat.le_of_ble_eq_true rfl) (by decide) ⟨by decide, by decide⟩ ?_
    rintro a τ1 ⟨hL, ea⟩
    refine g_cVI (st := _) (c_Nc_give hn) k_Nc_give l_Nc_208 (by decide +kernel) (by omega) rfl rfl rfl rfl (Nat.le_of_ble_eq_true rfl) (by decide) ⟨by decide, by decide⟩ ?_
    rintro a9 σ9 ⟨ea9, hσ9⟩
    obtain rfl := ea9.symm
    subst hσ9
    refine g_goto (off := 8) (tgt := 29) (by decide +kernel) (by decide) ?_
    refine g_retI (by decide +kernel) rfl (Or.inl rfl) ⟨by decide, by decide⟩ ?_
    first
      | (have hz : ¬ (0 ≤ c ∧ c < σ 1 0) := h8
         exact zRes.no (zQf.rf ho hR) (if_neg hz) (by decide))
      | exact zRes.ok (hL.q hR) (if_pos h8) (by rw [Int.toNat_natCast]; exact ea.symm)
