theorem c_Rd_read {G : zG} {n : Nat} {σ : zSt} {n0 : Nat} (hn : 189 ≤ n) (hb : zBt (σ 178)) (hn0 : n0 ≤ 600) (hO : ∀ k, k < 12 → σ 32 k = 0 ∨ σ 32 k = 1) (hG : zGood σ 11)  : Gm G y_Rd_read m_Rd_read 8 0 0 [vr G 179, vi (n0 : Int)] n SH σ (zV n SH (fun σ' => ∃ s, zRead (σ 178) n0 (zA00 (σ 178) n0 σ) s ∧ zRl σ s σ')) := by
  refine g_enter (L := [(0, _), (1, _)]) (by decide) rfl rfl rfl (Nat.le_of_ble_eq_true rfl) (fun X => ?_)
  refine g_aload_n (i := 0) (by decide +kernel) rfl ?_
  refine g_iload_n (i := 1) (by decide +kernel) rfl ?_
  refine g_puti f_Rd_30 (by decide +kernel) (by omega) rfl rfl ?_
  refine g_aload_n (i := 0) (by decide +kernel) rfl ?_
  refine g_iconst (a := 0) (by decide +kernel) ?_
  refine g_puti f_Rd_34 (by decide +kernel) (by omega) rfl rfl ?_
  refine g_aload_n (i := 0) (by decide +kernel) rfl ?_
  refine g_iconst (a := -1) (by decide +kernel) ?_
  refine g_puti f_Rd_37 (by decide +kernel) (by omega) rfl rfl ?_
  refine g_aload_n (i := 0) (by decide +kernel) rfl ?_
  refine g_iconst (a := -1) (by decide +kernel) ?_
  refine g_puti f_Rd_40 (by decide +kernel) (by omega) rfl rfl ?_
  refine g_aload_n (i := 0) (by decide +kernel) rfl ?_
  refine g_iconst (a := 0) (by decide +kernel) ?_
  refine g_puti f_Rd_43 (by decide +kernel) (by omega) rfl rfl ?_
  refine g_aload_n (i := 0) (by decide +kernel) rfl ?_
  refine g_iconst (a := -1) (by decide +kernel) ?_
  refine g_puti f_Rd_46 (by decide +kernel) (by omega) rfl rfl ?_
  refine g_aload_n (i := 0) (by decide +kernel) rfl ?_
  refine g_getr f_Rd_22 (by decide +kernel) (by omega) rfl rfl ?_
  refine g_cVV (st := _) (c_Sh_empty (b := 11) hn sh_11) k_Sh_empty l_Rd_49 (by decide +kernel) (by omega) rfl rfl rfl rfl (Nat.le_of_ble_eq_true rfl) (by decide) ⟨by decide, by decide⟩ ?_
  rintro υ hυ
  have f1 : ∀ a, a ≠ 179 → a ≠ 11 → υ a = σ a := fun a h1 h2 => by rw [hυ, zs_other h2, zs_other h2, zs_other h1, zs_other h1, zs_other h1, zs_other h1, zs_other h1, zs_other h1]
  have f2 : υ 179 = zu (zu (zu (zu (zu (zu (σ 179) 3 (n0 : Int)) 6 0) 10 (-1)) 11 (-1)) 13 0) 14 (-1) := by rw [hυ, zs_other (by decide), zs_other (by decide), zs_row, zs_row, zs_row, zs_row, zs_row, zs_row]
  have e178 : υ 178 = σ 178 := f1 178 (by decide) (by decide)
  have u3 : υ 179 3 = (n0 : Int) := by rw [f2]; rfl
  have u6 : υ 179 6 = ((0 : Nat) : Int) := by rw [f2]; rfl
  have u10 : υ 179 10 = -1 := by rw [f2]; rfl
  have u11 : υ 179 11 = -1 := by rw [f2]; rfl
  have u13 : υ 179 13 = 0 := by rw [f2]; rfl
  have u14 : υ 179 14 = -1 := by rw [f2]; rfl
  have hBu : zBt (υ 178) := by rw [e178]; exact hb
  have hD0 : zDr υ (zA00 (σ 178) n0 σ).D := by
    intro r hr
    show υ (11 + r) = zs (zs (fun r => σ (11 + r)) 0 0 0) 0 8 0 r
    by_cases e : r = 0
    · subst e
      rw [hυ, zs_row, zs_row, zs_row, zs_row, zs_other (by decide), zs_other (by decide), zs_other (by decide), zs_other (by decide), zs_other (by decide), zs_other (by decide)]
    · rw [f1 _ (by omega) (by omega), zs_other e, zs_other e]
  refine g_aload_n (i := 0) (by decide +kernel) rfl ?_
  refine g_cVV (st := _) (c_Rd_takeToken (n0 := n0) (p := 0) hn hBu u3 hn0 (Nat.zero_le _) u6) k_Rd_takeToken l_Rd_54 (by decide +kernel) (by omega) rfl rfl rfl rfl (Nat.le_of_ble_eq_true rfl) (by decide) ⟨by decide, by decide⟩ ?_
  rintro υ9 hk9
  have hR0 : zRc (σ 178) n0 σ (zA00 (σ 178) n0 σ) υ9 := by
    obtain ⟨⟨k0, k0'⟩, k1, k2, k3, k4⟩ := hk9
    rw [e178] at k1 k2 k3 k4
    exact ⟨⟨by rw [k0' 3 (by omega)]; exact u3, by rw [k0 178 (by decide)]; exact e178⟩, ⟨k1, k2, k3, k4⟩, ⟨by rw [k0' 10 (by omega)]; exact u10, by rw [k0' 11 (by omega)]; exact u11, fun y => absurd rfl y, by rw [k0' 13 (by omega)]; exact u13, by rw [k0' 14 (by omega)]; exact u14⟩, ⟨by rw [k0 180 (by decide)]; exact f1 180 (by decide) (by decide), by rw [k0 181 (by decide)]; exact f1 181 (by decide) (by decide)⟩, hD0.oth (fun r hr => k0 _ (by omega)), fun a h1 h2 _ _ => by rw [k0 a h2]; exact f1 a h2 (by omega)⟩
  have z0 : (zA00 (σ 178) n0 σ).D 0 0 = 0 := by show zs (zs (fun r => σ (11 + r)) 0 0 0) 0 8 0 0 0 = 0; rw [zs_ne (by decide), zs_eq]
  have z8 : (zA00 (σ 178) n0 σ).D 0 8 = 0 := by show zs (zs (fun r => σ (11 + r)) 0 0 0) 0 8 0 0 8 = 0; rw [zs_eq]
  have hG0 : zGood (zA00 (σ 178) n0 σ).D 0 := by
    have o : ∀ r, r ≠ 0 → (zA00 (σ 178) n0 σ).D r = σ (11 + r) := fun r hr => by show zs (zs (fun r => σ (11 + r)) 0 0 0) 0 8 0 r = _; rw [zs_other hr, zs_other hr]
    obtain ⟨g1, g2, g3, g4⟩ := hG
    unfold zGood
    simp only [Nat.zero_add]
    rw [z0, z8, o 1 (by decide), o 2 (by decide), o 3 (by decide), o 4 (by decide), o 5 (by decide), o 6 (by decide), o 7 (by decide), o 8 (by decide), o 9 (by decide)]
    exact ⟨by decide, g2, g3, g4⟩
  have q0 := zrn_r (P := zqs (σ 178)) (Nat.zero_le n0)
  have hA0 : zAi n0 (zA00 (σ 178) n0 σ) := ⟨q0.2, hG0, ⟨by show (-1 : Int) ≤ -1; decide, by rw [z0]; show (-1 : Int) < 0; decide⟩, ⟨by show (-1 : Int) ≤ -1; decide, by rw [z0]; show (-1 : Int) < 0; decide⟩, fun i hi => by rw [z0] at hi; exact absurd hi (by show ¬ i < 0; omega), by show 0 < 8192; decide⟩
  have hv0 : zAv (zA00 (σ 178) n0 σ) := zAv_0 z0 z8 hG0
  have hN0 : zN (zA00 (σ 178) n0 σ).D = 0 := by unfold zN; rw [z0]; rfl
  refine g_aload_n (i := 0) (by decide +kernel) rfl ?_
  refine g_cVI (st := _) (c_Rd_readClip hn hb hn0 hR0 hA0 rfl) k_Rd_readClip l_Rd_57 (by decide +kernel) (by omega) rfl rfl rfl rfl (Nat.le_of_ble_eq_true rfl) (by decide) ⟨by decide, by decide⟩ ?_
  rintro a8_ σ8 hres
  have ea8 := hres.b
  refine g_istore_n (i := 2) (L' := [(0, _), (1, _), (2, _)]) (by decide +kernel) rfl rfl ?_
  refine g_iconst (a := 0) (by decide +kernel) ?_
  refine g_istore_n (i := 3) (L' := [(0, _), (1, _), (2, _), (3, _)]) (by decide +kernel) rfl rfl ?_
  cases e : zpC (σ 178) n0 (zA00 (σ 178) n0 σ) with
  | inl f =>
    rw [e] at hres
    obtain rfl : a8_ = 0 := hres.1
    exact t_Rd_read hn hb hn0 hO ⟨by omega, by omega⟩ (Or.inl ⟨f, e, rfl⟩) hres
  | inr C =>
    rw [e] at hres
    obtain rfl : a8_ = 1 := hres.1
    have hlt := zpC_q hA0.1 e
    obtain ⟨i1, i2⟩ := zpC_inv hA0 hv0 (Or.inl hN0) e
    exact w_Rd_read hn hb hn0 hO (n0 + 1) 0 C _ σ8 rfl hres.2.1 i1 i2 (by omega) (fun r hr => Or.inr ⟨C, e, hr⟩) i1.1 (by omega)
