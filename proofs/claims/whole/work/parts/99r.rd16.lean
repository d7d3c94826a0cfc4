/-! LOAD of the class -/
/-- what is read, before it is taken -/
def zLdf (σ τ : zSt) : Prop := (∀ a, a ≠ 0 → a ≠ 177 → a ≠ 179 → a ≠ 180 → a ≠ 181 → a ≠ 182 → (a < 11 ∨ (20 < a ∧ a < 27) ∨ 32 < a) → τ a = σ a) ∧ (∀ j, j ≠ 11 → j ≠ 12 → τ 0 j = σ 0 j) ∧ τ 177 1 = 0 ∧ (∀ j, j ≠ 1 → τ 177 j = σ 177 j) ∧ zGood τ 11 ∧ (∀ k, k < 12 → τ 32 k = 0 ∨ τ 32 k = 1)
def zLdo (σ τ : zSt) (a : Int) (σ' : zSt) (s : (Int × Nat) ⊕ zAb) : Prop := match s with
  | .inl f => a = -1 ∧ σ' = zs τ 0 10 9 ∧ τ 0 11 = f.1 ∧ (1 ≤ f.1 ∧ f.1 ≤ 8) ∧ τ 0 12 = (f.2 : Int) ∧ τ 182 = σ 182
  | .inr B => a = B.D 0 0 ∧ zDid τ σ' (zSv τ 11) ∧ zSame2 (zSv τ 11) B.D ∧ zFine B.D ∧ τ 0 11 = 0 ∧ τ 0 12 = -1 ∧ τ 182 = zu (zu (σ 182) 0 0) 1 0
theorem zLdf.cl {σ τ : zSt} (h : zLdf σ τ) (hc : zCl σ) : zCl τ := by
  obtain ⟨ho, hR, hf, hD, hO, h1, h2⟩ := hc
  obtain ⟨k1, k2, k3, k4, k5, k6⟩ := h
  have e : ∀ a, a ≠ 0 → (a < 11 ∨ (20 < a ∧ a < 27) ∨ (32 < a ∧ a < 177)) → τ a = σ a := fun a h0 h1 => k1 a h0 (by omega) (by omega) (by omega) (by omega) (by omega) (by omega)
  exact ⟨zOn_cg (fun a ha => e a (by omega) (by omega)) ho, by rw [e 93 (by omega) (by omega)]; exact hR, (zSame2.of (fun r hr => e (1 + r) (by omega) (by omega))).fine hf, k5, k6, by rw [e 95 (by omega) (by omega)]; exact h1, by rw [e 95 (by omega) (by omega)]; exact h2⟩
theorem c_Nc_load {G : zG} {n : Nat} {σ : zSt} {x : Int} (hn : 189 ≤ n) (hc0 : zCl σ) (z1 : zr x) (ht : 0 ≤ σ 177 1 ∧ σ 177 1 ≤ 600) (hb : zBt (σ 178))  : Gm G y_Nc_load m_Nc_load 9 0 0 [vr G 0, vi x] n SH σ (zI n SH (fun a σ' => ((x < 0 ∨ σ 177 1 < x) ∧ a = -1 ∧ σ' = zs σ 0 10 1) ∨ (¬ (x < 0 ∨ σ 177 1 < x) ∧ ∃ s τ, zRead (σ 178) x.toNat (zA00 (σ 178) x.toNat σ) s ∧ zLdf σ τ ∧ zLdo σ τ a σ' s))) := by
  refine g_enter (L := [(0, _), (1, _)]) (by decide) rfl rfl rfl (Nat.le_of_ble_eq_true rfl) (fun X => ?_)
  refine g_iload_n (i := 1) (by decide +kernel) rfl ?_
  refine g_if_lt (off := 14) (tgt := 15) (by decide +kernel) (by decide) ⟨by omega, by omega⟩ (fun h1 => ?_) (fun h1 => ?_)
  · refine g_aload_n (i := 0) (by decide +kernel) rfl ?_
    refine g_iconst (a := 1) (by decide +kernel) ?_
    refine g_cVI (st := _) (c_Nc_refuse hn) k_Nc_refuse l_Nc_97 (by decide +kernel) (by omega) rfl rfl rfl rfl (Nat.le_of_ble_eq_true rfl) (by decide) ⟨by decide, by decide⟩ ?_
    rintro a9 σ9 ⟨ea9, hσ9⟩
    obtain rfl := ea9.symm
    subst hσ9
    refine g_retI (by decide +kernel) rfl (Or.inl rfl) ⟨by decide, by decide⟩ ?_
    exact Or.inl ⟨by omega, rfl, rfl⟩
  · refine g_iload_n (i := 1) (by decide +kernel) rfl ?_
    refine g_aload_n (i := 0) (by decide +kernel) rfl ?_
    refine g_getr f_Nc_57 (by decide +kernel) (by omega) rfl rfl ?_
    refine g_geti f_Nc_90 (by decide +kernel) (by omega) rfl rfl ?_
    refine g_icmp_le (off := 9) (tgt := 21) (by decide +kernel) (by decide) ⟨by omega, by omega⟩ ⟨by omega, by omega⟩ (fun h12 => ?_) (fun h12 => ?_)
    · obtain ⟨n0, rfl⟩ := Int.eq_ofNat_of_zero_le h1
      refine g_aload_n (i := 0) (by decide +kernel) rfl ?_
      refine g_getr f_Nc_66 (by decide +kernel) (by omega) rfl rfl ?_
      refine g_iload_n (i := 1) (by decide +kernel) rfl ?_
      refine g_cVV (st := _) (c_Rd_read (n0 := n0) hn hb (by omega) hc0.2.2.2.2.1 hc0.2.2.2.1) k_Rd_read l_Nc_101 (by decide +kernel) (by omega) rfl rfl rfl rfl (Nat.le_of_ble_eq_true rfl) (by decide) ⟨by decide, by decide⟩ ?_
      rintro υ ⟨s, hs, hl⟩
      refine g_aload_n (i := 0) (by decide +kernel) rfl ?_
      refine g_getr f_Nc_57 (by decide +kernel) (by omega) rfl rfl ?_
      refine g_iconst (a := 0) (by decide +kernel) ?_
      refine g_puti f_Nc_90 (by decide +kernel) (by omega) rfl rfl ?_
      refine g_aload_n (i := 0) (by decide +kernel) rfl ?_
      refine g_aload_n (i := 0) (by decide +kernel) rfl ?_
      refine g_getr f_Nc_66 (by decide +kernel) (by omega) rfl rfl ?_
      refine g_geti f_Nc_104 (by decide +kernel) (by omega) rfl rfl ?_
      refine g_puti f_Nc_81 (by decide +kernel) (by omega) rfl rfl ?_
      refine g_aload_n (i := 0) (by decide +kernel) rfl ?_
      refine g_aload_n (i := 0) (by decide +kernel) rfl ?_
      refine g_getr f_Nc_66 (by decide +kernel) (by omega) rfl rfl ?_
      refine g_geti f_Nc_105 (by decide +kernel) (by omega) rfl rfl ?_
      refine g_puti f_Nc_84 (by decide +kernel) (by omega) rfl rfl ?_
      obtain ⟨τ, eτ⟩ : ∃ τ, τ = zs (zs (zs υ 177 1 0) 0 11 (zs υ 177 1 0 179 13)) 0 12 (zs (zs υ 177 1 0) 0 11 (zs υ 177 1 0 179 13) 179 14) := ⟨_, rfl⟩
      rw [← eτ]
      have t11 : τ 0 11 = υ 179 13 := by rw [eτ, zs_ne (by decide), zs_eq, zs_other (by decide)]
      have t12 : τ 0 12 = υ 179 14 := by rw [eτ, zs_eq, zs_other (by decide), zs_other (by decide)]
      have tO : ∀ a, a ≠ 0 → a ≠ 177 → τ a = υ a := fun a h1 h2 => by rw [eτ, zs_other h1, zs_other h1, zs_other h2]
      obtain ⟨l1, l2, l3, l4⟩ := hl
      have e0 : υ 0 = σ 0 := l1 0 (by omega) (by decide) (by decide) (by decide)
      have e177 : υ 177 = σ 177 := l1 177 (by omega) (by decide) (by decide) (by decide)
      have t182 : τ 182 = σ 182 := by rw [tO 182 (by decide) (by decide)]; exact l1 182 (by omega) (by decide) (by decide) (by decide)
      have hL : zLdf σ τ := by
        refine ⟨fun a h0 h1 h2 h3 h4 h5 h6 => by rw [tO a h0 h1]; exact l1 a h6 h2 h3 h4, fun j h1 h2 => by rw [eτ, zs_ne (by omega), zs_ne (by omega), zs_other (by decide), e0], by rw [eτ, zs_other (by decide), zs_other (by decide), zs_eq], fun j hj => by rw [eτ, zs_other (by decide), zs_other (by decide), zs_ne (by omega), e177], zGood_v.mp ((zSame2.of (fun r hr => by show τ (11 + r) = υ (11 + r); exact tO _ (by omega) (by omega))).good (zGood_v.mpr l2)), by rw [tO 32 (by decide) (by decide)]; exact l3⟩
      have t11r : 0 ≤ τ 0 11 ∧ τ 0 11 ≤ 8 := by
        cases s with
        | inl f => have q := l4.1; have q2 := l4.2.1; omega
        | inr B => have q := l4.1; omega
      refine g_aload_n (i := 0) (by decide +kernel) rfl ?_
      refine g_geti f_Nc_81 (by decide +kernel) (by omega) rfl rfl ?_
      refine g_if_eq (off := 10) (tgt := 73) (by decide +kernel) (by decide) ⟨by omega, by omega⟩ (fun h63 => ?_) (fun h63 => ?_)
      · refine g_aload_n (i := 0) (by decide +kernel) rfl ?_
        refine g_getr f_Nc_73 (by decide +kernel) (by omega) rfl rfl ?_
        refine g_cVV (st := _) (c_Re_rewind hn) k_Re_rewind l_Nc_108 (by decide +kernel) (by omega) rfl rfl rfl rfl (Nat.le_of_ble_eq_true rfl) (by decide) ⟨by decide, by decide⟩ ?_
        rintro ψ hψ
        obtain ⟨B, eB⟩ : ∃ B, s = .inr B := by
          cases s with
          | inl f => have q := l4.1; have q2 := l4.2.1; exact absurd h63 (by omega)
          | inr B => exact ⟨B, rfl⟩
        subst eB
        obtain ⟨m1, m2, m3, m4⟩ := l4
        have pO : ∀ a, a ≠ 182 → ψ a = τ a := fun a ha => by rw [hψ, zs_other ha, zs_other ha]
        have hL2 : zLdf σ ψ := by
          obtain ⟨k1, k2, k3, k4, k5, k6⟩ := hL
          exact ⟨fun a h0 h1 h2 h3 h4 h5 h6 => by rw [pO a h5]; exact k1 a h0 h1 h2 h3 h4 h5 h6, fun j h1 h2 => by rw [pO 0 (by decide)]; exact k2 j h1 h2, by rw [pO 177 (by decide)]; exact k3, fun j hj => by rw [pO 177 (by decide)]; exact k4 j hj, zGood_v.mp ((zSame2.of (fun r hr => by show ψ (11 + r) = τ (11 + r); exact pO _ (by omega))).good (zGood_v.mpr k5)), by rw [pO 32 (by decide)]; exact k6⟩
        have smB : zSame2 (zSv ψ 11) B.D := zSame2.of (fun r hr => by show ψ (11 + r) = B.D r; rw [pO _ (by omega), tO _ (by omega) (by omega)]; exact m3 r hr)
        have p0 : ψ 11 0 = B.D 0 0 := smB.1.1
        have hFB := smB.fin m4.1
        have lB := smB.last m4.1
        refine g_aload_n (i := 0) (by decide +kernel) rfl ?_
        refine g_aload_n (i := 0) (by decide +kernel) rfl ?_
        refine g_getr f_Nc_16 (by decide +kernel) (by omega) rfl rfl ?_
        refine g_geti f_Nc_111 (by decide +kernel) (by omega) rfl rfl ?_
        refine g_cVI (st := _) (c_Nc_act (x := ψ 11 0) hn (hL2.cl hc0) hFB) k_Nc_act l_Nc_114 (by decide +kernel) (by omega) rfl rfl rfl rfl (Nat.le_of_ble_eq_true rfl) (by decide) ⟨by decide, by decide⟩ ?_
        rintro a9 σ9 hA
        refine g_retI (by decide +kernel) rfl (Or.inl rfl) ⟨by decide, by decide⟩ ?_
        refine Or.inr ⟨by omega, .inr B, ψ, by rw [Int.toNat_natCast]; exact hs, hL2, ?_⟩
        have l9 := m4.2
        rcases hA with ⟨w1, w2, w3⟩ | ⟨w1, w2, w3⟩
        · rw [if_neg (by omega)] at w1; exact absurd rfl w1
        · exact ⟨by rw [w2]; exact p0, w3, smB, m4, by rw [pO 0 (by decide), t11]; exact m1, by rw [pO 0 (by decide), t12]; exact m2, by rw [hψ, zs_row, zs_row, t182]⟩
      · refine g_aload_n (i := 0) (by decide +kernel) rfl ?_
        refine g_bipush (a := 9) (by decide +kernel) (by decide) ?_
        refine g_cVI (st := _) (c_Nc_refuse hn) k_Nc_refuse l_Nc_97 (by decide +kernel) (by omega) rfl rfl rfl rfl (Nat.le_of_ble_eq_true rfl) (by decide) ⟨by decide, by decide⟩ ?_
        rintro a9 σ9 ⟨ea9, hσ9⟩
        obtain rfl := ea9.symm
        subst hσ9
        refine g_retI (by decide +kernel) rfl (Or.inl rfl) ⟨by decide, by decide⟩ ?_
        refine Or.inr ⟨by omega, s, τ, by rw [Int.toNat_natCast]; exact hs, hL, ?_⟩
        cases s with
        | inl f => exact ⟨rfl, rfl, by rw [t11]; exact l4.1, l4.2.1, by rw [t12]; exact l4.2.2, t182⟩
        | inr B => have q := l4.1; exact absurd (t11.trans q) h63
    · refine g_aload_n (i := 0) (by decide +kernel) rfl ?_
      refine g_iconst (a := 1) (by decide +kernel) ?_
      refine g_cVI (st := _) (c_Nc_refuse hn) k_Nc_refuse l_Nc_97 (by decide +kernel) (by omega) rfl rfl rfl rfl (Nat.le_of_ble_eq_true rfl) (by decide) ⟨by decide, by decide⟩ ?_
      rintro a9 σ9 ⟨ea9, hσ9⟩
      obtain rfl := ea9.symm
      subst hσ9
      refine g_retI (by decide +kernel) rfl (Or.inl rfl) ⟨by decide, by decide⟩ ?_
      exact Or.inl ⟨by omega, rfl, rfl⟩
