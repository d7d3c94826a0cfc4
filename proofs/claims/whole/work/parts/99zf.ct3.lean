/-! THE CONSTRUCTOR of NestedClips -/
/-- a fresh object -/
def zNew (σ : zSt) : Prop := zStage σ ∧ (∀ a, ((1 ≤ a ∧ a < 21) ∨ (27 ≤ a ∧ a < 33) ∨ 93 ≤ a) → σ a = fun _ => 0) ∧ (σ 0 10 = 0 ∧ σ 0 11 = -1 ∧ σ 0 12 = -1)
theorem zGood_0 {σ : zSt} {b : Nat} (h : ∀ r, r < 10 → σ (b + r) = fun _ => 0) : zGood σ b := by
  unfold zGood
  have h0 := h 0 (by decide)
  rw [Nat.add_zero] at h0
  rw [h0, h 1 (by decide), h 2 (by decide), h 3 (by decide), h 4 (by decide), h 5 (by decide), h 6 (by decide), h 7 (by decide), h 8 (by decide), h 9 (by decide)]
  exact ⟨by decide, fun _ _ => by dsimp only; decide, fun _ _ => by dsimp only; decide, fun _ _ => by dsimp only; decide⟩
theorem zFin_0 {σ : zSt} {b : Nat} (h : ∀ r, r < 10 → σ (b + r) = fun _ => 0) : zFin (zSv σ b) := by
  have e : ∀ r, r < 10 → zSv σ b (0 + r) = fun _ => 0 := fun r hr => by rw [Nat.zero_add]; exact h r hr
  have h0 := e 0 (by decide)
  rw [Nat.zero_add] at h0
  exact (zAv_0 (q := 0) (td := 0) (D := zSv σ b) (nm := fun _ => 0) (sn := fun _ => 0) (by rw [h0]) (by rw [h0]) (zGood_0 e)).fin ⟨rfl, rfl⟩
theorem zNew.cl {σ : zSt} (h : zNew σ) : zCl σ := by
  obtain ⟨h1, h2, h3⟩ := h
  have r1 : ∀ r, r < 10 → σ (1 + r) = fun _ => 0 := fun r hr => h2 _ (by omega)
  have r11 : ∀ r, r < 10 → σ (11 + r) = fun _ => 0 := fun r hr => h2 _ (by omega)
  have F := zFin_0 r1
  have n0 : zSv σ 1 0 0 = 0 := by show σ 1 0 = 0; rw [h2 1 (by decide)]
  refine ⟨⟨zGood_0 r1, F.2.1, h1⟩, fun j _ _ => by rw [h2 93 (by decide)]; dsimp only; decide, ⟨F, ?_⟩, zGood_0 r11, fun k _ => by rw [h2 32 (by decide)]; exact Or.inl rfl, by rw [h2 95 (by decide)]; decide, by rw [h2 95 (by decide)]; decide⟩
  unfold zlast
  rw [n0, if_pos rfl]
  decide
theorem zAr_Sr : zAr SH 93 [(0, 2000)] := fun i hi => by
  match i, hi with
  | 0, _ => rfl
  | i + 1, hi => exact absurd hi (by show ¬ (i + 1 < 1); omega)
theorem zAr_Ta : zAr SH 177 [(0, 600)] := fun i hi => by
  match i, hi with
  | 0, _ => rfl
  | i + 1, hi => exact absurd hi (by show ¬ (i + 1 < 1); omega)
theorem zAr_Rd : zAr SH 179 [(1, 12), (1, 12)] := fun i hi => by
  match i, hi with
  | 0, _ => rfl
  | 1, _ => rfl
  | i + 2, hi => exact absurd hi (by show ¬ (i + 2 < 2); omega)
theorem zAr_Re : zAr SH 182 [(0, 64), (0, 64), (0, 64), (0, 64), (3, 12), (0, 12)] := fun i hi => by
  match i, hi with
  | 0, _ => rfl
  | 1, _ => rfl
  | 2, _ => rfl
  | 3, _ => rfl
  | 4, _ => rfl
  | 5, _ => rfl
  | i + 6, hi => exact absurd hi (by show ¬ (i + 6 < 6); omega)
theorem c_Nc_init {G : zG} {σ : zSt} (hz : ∀ k, 0 < k → σ k = fun _ => 0) : Gm G y_Nc_init m_Nc_init 5 188 5791 [vr G 0] 1 (zu SH 0 (.inl (9, z0_Nc))) σ (zV 189 SH (fun σ' => zNew σ')) := by
  refine g_enter (L := [(0, _)]) (by decide) rfl rfl rfl (Nat.le_of_ble_eq_true rfl) (fun X => ?_)
  refine g_aload_n (i := 0) (by decide +kernel) rfl ?_
  refine g_obj lo_Nc (by decide +kernel) (Nat.le_of_ble_eq_true rfl) (by omega) ?_
  refine g_aload_n (i := 0) (by decide +kernel) rfl ?_
  refine g_nw (κ' := (5, 1, 11, 188, 5791)) (n' := 2) fo_Sh cl_Nc_7 in_Sh ii_Sh (df_Sh G) (by decide +kernel) (hz _ (by omega)) ⟨by decide, by decide⟩ rfl rfl ?_
  refine g_dup (by decide +kernel) rfl ?_
  refine g_cIN (κ' := (5, 10, 203, 188, 5791)) (n' := 11) (sh2 := (zu SH 0 (.inl (9, [.inl none, .inl none, .inl none, .inl none, .inl none, .inl none, .inl none, .inl none, .inl none, .inl none, .inr .int, .inr .int, .inr .int])))) (c_Sh_init (b := 1) ((zSw.ar sh_1).cg (fun k h1 _ => zu_ne (by omega))) (fun k hk => hz k (by omega))) k_Sh_init (List.mem_of_getElem? (i := 0) rfl) (by decide +kernel) rfl rfl (Nat.le_of_ble_eq_true rfl) (by decide) ⟨by decide, by decide⟩ rfl rfl (zu_id ((zu_ne (by decide)).trans rfl)) ?_
  rintro σ9 hσ9
  obtain rfl := hσ9.symm
  refine g_ptF f_Nc_10 (fl' := [.inl (some 1), .inl none, .inl none, .inl none, .inl none, .inl none, .inl none, .inl none, .inl none, .inl none, .inr .int, .inr .int, .inr .int]) (by decide +kernel) rfl rfl (by omega) (Nat.le_of_ble_eq_true rfl) rfl rfl rfl ?_
  refine g_aload_n (i := 0) (by decide +kernel) rfl ?_
  refine g_nw (κ' := (5, 11, 214, 188, 5791)) (n' := 12) fo_Sh cl_Nc_7 in_Sh ii_Sh (df_Sh G) (by decide +kernel) (hz _ (by omega)) ⟨by decide, by decide⟩ rfl rfl ?_
  refine g_dup (by decide +kernel) rfl ?_
  refine g_cIN (κ' := (5, 20, 406, 188, 5791)) (n' := 21) (sh2 := (zu SH 0 (.inl (9, [.inl (some 1), .inl none, .inl none, .inl none, .inl none, .inl none, .inl none, .inl none, .inl none, .inl none, .inr .int, .inr .int, .inr .int])))) (c_Sh_init (b := 11) ((zSw.ar sh_11).cg (fun k h1 _ => zu_ne (by omega))) (fun k hk => hz k (by omega))) k_Sh_init (List.mem_of_getElem? (i := 0) rfl) (by decide +kernel) rfl rfl (Nat.le_of_ble_eq_true rfl) (by decide) ⟨by decide, by decide⟩ rfl rfl (zu_id ((zu_ne (by decide)).trans rfl)) ?_
  rintro σ9 hσ9
  obtain rfl := hσ9.symm
  refine g_ptF f_Nc_16 (fl' := [.inl (some 1), .inl (some 11), .inl none, .inl none, .inl none, .inl none, .inl none, .inl none, .inl none, .inl none, .inr .int, .inr .int, .inr .int]) (by decide +kernel) rfl rfl (by omega) (Nat.le_of_ble_eq_true rfl) rfl rfl rfl ?_
  refine g_aload_n (i := 0) (by decide +kernel) rfl ?_
  refine g_nw (κ' := (5, 21, 412, 188, 5791)) (n' := 22) fo_La cl_Nc_19 in_La ii_La (df_La G) (by decide +kernel) (hz _ (by omega)) ⟨by decide, by decide⟩ rfl rfl ?_
  refine g_dup (by decide +kernel) rfl ?_
  refine g_cIN (κ' := (5, 26, 472, 188, 5791)) (n' := 27) (sh2 := (zu SH 0 (.inl (9, [.inl (some 1), .inl (some 11), .inl none, .inl none, .inl none, .inl none, .inl none, .inl none, .inl none, .inl none, .inr .int, .inr .int, .inr .int])))) (c_La_init (b := 21) ((zLa.ar la_21).cg (fun k h1 _ => zu_ne (by omega))) (fun k hk => hz k (by omega))) k_La_init (List.mem_of_getElem? (i := 1) rfl) (by decide +kernel) rfl rfl (Nat.le_of_ble_eq_true rfl) (by decide) ⟨by decide, by decide⟩ rfl rfl (zu_id ((zu_ne (by decide)).trans rfl)) ?_
  rintro σ9 hσ9
  obtain rfl := hσ9.symm
  refine g_ptF f_Nc_22 (fl' := [.inl (some 1), .inl (some 11), .inl (some 21), .inl none, .inl none, .inl none, .inl none, .inl none, .inl none, .inl none, .inr .int, .inr .int, .inr .int]) (by decide +kernel) rfl rfl (by omega) (Nat.le_of_ble_eq_true rfl) rfl rfl rfl ?_
  refine g_aload_n (i := 0) (by decide +kernel) rfl ?_
  refine g_nw (κ' := (5, 27, 478, 188, 5791)) (n' := 28) fo_La cl_Nc_19 in_La ii_La (df_La G) (by decide +kernel) (hz _ (by omega)) ⟨by decide, by decide⟩ rfl rfl ?_
  refine g_dup (by decide +kernel) rfl ?_
  refine g_cIN (κ' := (5, 32, 538, 188, 5791)) (n' := 33) (sh2 := (zu SH 0 (.inl (9, [.inl (some 1), .inl (some 11), .inl (some 21), .inl none, .inl none, .inl none, .inl none, .inl none, .inl none, .inl none, .inr .int, .inr .int, .inr .int])))) (c_La_init (b := 27) ((zLa.ar la_27).cg (fun k h1 _ => zu_ne (by omega))) (fun k hk => hz k (by omega))) k_La_init (List.mem_of_getElem? (i := 1) rfl) (by decide +kernel) rfl rfl (Nat.le_of_ble_eq_true rfl) (by decide) ⟨by decide, by decide⟩ rfl rfl (zu_id ((zu_ne (by decide)).trans rfl)) ?_
  rintro σ9 hσ9
  obtain rfl := hσ9.symm
  refine g_ptF f_Nc_26 (fl' := [.inl (some 1), .inl (some 11), .inl (some 21), .inl (some 27), .inl none, .inl none, .inl none, .inl none, .inl none, .inl none, .inr .int, .inr .int, .inr .int]) (by decide +kernel) rfl rfl (by omega) (Nat.le_of_ble_eq_true rfl) rfl rfl rfl ?_
  refine g_aload_n (i := 0) (by decide +kernel) rfl ?_
  refine g_nw (κ' := (5, 33, 546, 188, 5791)) (n' := 34) fo_Sg cl_Nc_29 in_Sg ii_Sg (df_Sg G) (by decide +kernel) (hz _ (by omega)) ⟨by decide, by decide⟩ rfl rfl ?_
  refine g_dup (by decide +kernel) rfl ?_
  refine g_aload_n (i := 0) (by decide +kernel) rfl ?_
  refine g_getr f_Nc_10 (by decide +kernel) (by omega) ((zu_ne (by decide)).trans (zu_eq _ _ _)) rfl ?_
  refine g_aload_n (i := 0) (by decide +kernel) rfl ?_
  refine g_getr f_Nc_22 (by decide +kernel) (by omega) ((zu_ne (by decide)).trans (zu_eq _ _ _)) rfl ?_
  refine g_cI (κ' := (5, 92, 1221, 188, 5791)) (n' := 93) (sh2 := (zu SH 0 (.inl (9, [.inl (some 1), .inl (some 11), .inl (some 21), .inl (some 27), .inl none, .inl none, .inl none, .inl none, .inl none, .inl none, .inr .int, .inr .int, .inr .int])))) (c_Sg_init (q := 1) (r := 21) (fun k h1 _ => zu_ne (by omega)) (fun k hk => hz k (by omega))) k_Sg_init l_Nc_31 (by decide +kernel) rfl rfl (Nat.le_of_ble_eq_true rfl) (by decide) ⟨by decide, by decide⟩ rfl rfl (zu_id ((zu_ne (by decide)).trans rfl)) ?_
  rintro σ2 ⟨g1, g2, g3⟩
  have hz2 : ∀ k, 93 ≤ k → σ2 k = fun _ => 0 := fun k hk => by rw [g1 k (by omega)]; exact hz k (by omega)
  refine g_ptF f_Nc_34 (fl' := [.inl (some 1), .inl (some 11), .inl (some 21), .inl (some 27), .inl (some 33), .inl none, .inl none, .inl none, .inl none, .inl none, .inr .int, .inr .int, .inr .int]) (by decide +kernel) rfl rfl (by omega) (Nat.le_of_ble_eq_true rfl) rfl rfl rfl ?_
  refine g_aload_n (i := 0) (by decide +kernel) rfl ?_
  refine g_nw (κ' := (5, 93, 1227, 188, 5791)) (n' := 94) fo_Sr cl_Nc_38 in_Sr ii_Sr (df_Sr G) (by decide +kernel) (hz2 _ (by omega)) ⟨by decide, by decide⟩ rfl rfl ?_
  refine g_dup (by decide +kernel) rfl ?_
  refine g_aload_n (i := 0) (by decide +kernel) rfl ?_
  refine g_getr f_Nc_34 (by decide +kernel) (by omega) ((zu_ne (by decide)).trans (zu_eq _ _ _)) rfl ?_
  refine g_cI (κ' := (5, 94, 3227, 188, 5791)) (n' := 95) (sh2 := (zu SH 0 (.inl (9, [.inl (some 1), .inl (some 11), .inl (some 21), .inl (some 27), .inl (some 33), .inl none, .inl none, .inl none, .inl none, .inl none, .inr .int, .inr .int, .inr .int])))) (c_Sr_init (b := 93) (q := 33) (zAr_Sr.cg (fun k h1 _ => zu_ne (by omega))) (fun k hk => hz2 k (by omega))) k_Sr_init l_Nc_40 (by decide +kernel) rfl rfl (Nat.le_of_ble_eq_true rfl) (by decide) ⟨by decide, by decide⟩ rfl rfl (zu_id ((zu_ne (by decide)).trans rfl)) ?_
  rintro σ9 hσ9
  obtain rfl := hσ9.symm
  refine g_ptF f_Nc_43 (fl' := [.inl (some 1), .inl (some 11), .inl (some 21), .inl (some 27), .inl (some 33), .inl (some 93), .inl none, .inl none, .inl none, .inl none, .inr .int, .inr .int, .inr .int]) (by decide +kernel) rfl rfl (by omega) (Nat.le_of_ble_eq_true rfl) rfl rfl rfl ?_
  refine g_aload_n (i := 0) (by decide +kernel) rfl ?_
  refine g_nw (κ' := (5, 95, 3230, 188, 5791)) (n' := 96) fo_Pa cl_Nc_47 in_Pa ii_Pa (df_Pa G) (by decide +kernel) (hz2 _ (by omega)) ⟨by decide, by decide⟩ rfl rfl ?_
  refine g_dup (by decide +kernel) rfl ?_
  refine g_cI (κ' := (5, 176, 4862, 188, 5791)) (n' := 177) (sh2 := (zu SH 0 (.inl (9, [.inl (some 1), .inl (some 11), .inl (some 21), .inl (some 27), .inl (some 33), .inl (some 93), .inl none, .inl none, .inl none, .inl none, .inr .int, .inr .int, .inr .int])))) (c_Pa_init (fun k h1 _ => zu_ne (by omega)) (fun k hk => hz2 k (by omega))) k_Pa_init l_Nc_49 (by decide +kernel) rfl rfl (Nat.le_of_ble_eq_true rfl) (by decide) ⟨by decide, by decide⟩ rfl rfl (zu_id ((zu_ne (by decide)).trans rfl)) ?_
  rintro σ9 hσ9
  obtain rfl := hσ9.symm
  refine g_ptF f_Nc_50 (fl' := [.inl (some 1), .inl (some 11), .inl (some 21), .inl (some 27), .inl (some 33), .inl (some 93), .inl (some 95), .inl none, .inl none, .inl none, .inr .int, .inr .int, .inr .int]) (by decide +kernel) rfl rfl (by omega) (Nat.le_of_ble_eq_true rfl) rfl rfl rfl ?_
  refine g_aload_n (i := 0) (by decide +kernel) rfl ?_
  refine g_nw (κ' := (5, 177, 4864, 188, 5791)) (n' := 178) fo_Ta cl_Nc_54 in_Ta ii_Ta (df_Ta G) (by decide +kernel) (hz2 _ (by omega)) ⟨by decide, by decide⟩ rfl rfl ?_
  refine g_dup (by decide +kernel) rfl ?_
  refine g_cIN (κ' := (5, 178, 5464, 188, 5791)) (n' := 179) (sh2 := (zu SH 0 (.inl (9, [.inl (some 1), .inl (some 11), .inl (some 21), .inl (some 27), .inl (some 33), .inl (some 93), .inl (some 95), .inl none, .inl none, .inl none, .inr .int, .inr .int, .inr .int])))) (c_Ta_init (b := 177) (zAr_Ta.cg (fun k h1 _ => zu_ne (by omega))) (fun k hk => hz2 k (by omega))) k_Ta_init (List.mem_of_getElem? (i := 4) rfl) (by decide +kernel) rfl rfl (Nat.le_of_ble_eq_true rfl) (by decide) ⟨by decide, by decide⟩ rfl rfl (zu_id ((zu_ne (by decide)).trans rfl)) ?_
  rintro σ9 hσ9
  obtain rfl := hσ9.symm
  refine g_ptF f_Nc_57 (fl' := [.inl (some 1), .inl (some 11), .inl (some 21), .inl (some 27), .inl (some 33), .inl (some 93), .inl (some 95), .inl (some 177), .inl none, .inl none, .inr .int, .inr .int, .inr .int]) (by decide +kernel) rfl rfl (by omega) (Nat.le_of_ble_eq_true rfl) rfl rfl rfl ?_
  refine g_aload_n (i := 0) (by decide +kernel) rfl ?_
  refine g_nw (κ' := (5, 179, 5479, 188, 5791)) (n' := 180) fo_Rd cl_Nc_61 in_Rd ii_Rd (df_Rd G) (by decide +kernel) (hz2 _ (by omega)) ⟨by decide, by decide⟩ rfl rfl ?_
  refine g_dup (by decide +kernel) rfl ?_
  refine g_aload_n (i := 0) (by decide +kernel) rfl ?_
  refine g_getr f_Nc_57 (by decide +kernel) (by omega) ((zu_ne (by decide)).trans (zu_eq _ _ _)) rfl ?_
  refine g_aload_n (i := 0) (by decide +kernel) rfl ?_
  refine g_getr f_Nc_16 (by decide +kernel) (by omega) ((zu_ne (by decide)).trans (zu_eq _ _ _)) rfl ?_
  refine g_aload_n (i := 0) (by decide +kernel) rfl ?_
  refine g_getr f_Nc_26 (by decide +kernel) (by omega) ((zu_ne (by decide)).trans (zu_eq _ _ _)) rfl ?_
  refine g_cI (κ' := (5, 181, 5503, 188, 5791)) (n' := 182) (sh2 := (zu SH 0 (.inl (9, [.inl (some 1), .inl (some 11), .inl (some 21), .inl (some 27), .inl (some 33), .inl (some 93), .inl (some 95), .inl (some 177), .inl none, .inl none, .inr .int, .inr .int, .inr .int])))) (c_Rd_init (b := 179) (q := 177) (r := 11) (u := 27) (zAr_Rd.cg (fun k h1 _ => zu_ne (by omega))) (fun k hk => hz2 k (by omega))) k_Rd_init l_Nc_63 (by decide +kernel) rfl rfl (Nat.le_of_ble_eq_true rfl) (by decide) ⟨by decide, by decide⟩ rfl rfl (zu_id ((zu_ne (by decide)).trans rfl)) ?_
  rintro σ9 hσ9
  obtain rfl := hσ9.symm
  refine g_ptF f_Nc_66 (fl' := [.inl (some 1), .inl (some 11), .inl (some 21), .inl (some 27), .inl (some 33), .inl (some 93), .inl (some 95), .inl (some 177), .inl (some 179), .inl none, .inr .int, .inr .int, .inr .int]) (by decide +kernel) rfl rfl (by omega) (Nat.le_of_ble_eq_true rfl) rfl rfl rfl ?_
  refine g_aload_n (i := 0) (by decide +kernel) rfl ?_
  refine g_nw (κ' := (5, 182, 5511, 188, 5791)) (n' := 183) fo_Re cl_Nc_70 in_Re ii_Re (df_Re G) (by decide +kernel) (hz2 _ (by omega)) ⟨by decide, by decide⟩ rfl rfl ?_
  refine g_dup (by decide +kernel) rfl ?_
  refine g_cIN (κ' := (5, 188, 5791, 188, 5791)) (n' := 189) (sh2 := (zu SH 0 (.inl (9, [.inl (some 1), .inl (some 11), .inl (some 21), .inl (some 27), .inl (some 33), .inl (some 93), .inl (some 95), .inl (some 177), .inl (some 179), .inl none, .inr .int, .inr .int, .inr .int])))) (c_Re_init (b := 182) (zAr_Re.cg (fun k h1 _ => zu_ne (by omega))) (fun k hk => hz2 k (by omega))) k_Re_init (List.mem_of_getElem? (i := 5) rfl) (by decide +kernel) rfl rfl (Nat.le_of_ble_eq_true rfl) (by decide) ⟨by decide, by decide⟩ rfl rfl (zu_id ((zu_ne (by decide)).trans rfl)) ?_
  rintro σ9 hσ9
  obtain rfl := hσ9.symm
  refine g_ptF f_Nc_73 (fl' := [.inl (some 1), .inl (some 11), .inl (some 21), .inl (some 27), .inl (some 33), .inl (some 93), .inl (some 95), .inl (some 177), .inl (some 179), .inl (some 182), .inr .int, .inr .int, .inr .int]) (by decide +kernel) rfl rfl (by omega) (Nat.le_of_ble_eq_true rfl) rfl rfl rfl ?_
  refine g_aload_n (i := 0) (by decide +kernel) rfl ?_
  refine g_iconst (a := 0) (by decide +kernel) ?_
  refine g_puti f_Nc_77 (by decide +kernel) (by omega) (zu_eq _ _ _) rfl ?_
  refine g_aload_n (i := 0) (by decide +kernel) rfl ?_
  refine g_iconst (a := -1) (by decide +kernel) ?_
  refine g_puti f_Nc_81 (by decide +kernel) (by omega) (zu_eq _ _ _) rfl ?_
  refine g_aload_n (i := 0) (by decide +kernel) rfl ?_
  refine g_iconst (a := -1) (by decide +kernel) ?_
  refine g_puti f_Nc_84 (by decide +kernel) (by omega) (zu_eq _ _ _) rfl ?_
  rw [zu_id (show SH 0 = .inl (9, [.inl (some 1), .inl (some 11), .inl (some 21), .inl (some 27), .inl (some 33), .inl (some 93), .inl (some 95), .inl (some 177), .inl (some 179), .inl (some 182), .inr .int, .inr .int, .inr .int]) from rfl)]
  obtain ⟨τ, eτ⟩ : ∃ τ, τ = zs (zs (zs σ2 0 10 0) 0 11 (-1)) 0 12 (-1) := ⟨_, rfl⟩
  refine g_eq (σ' := τ) ?_ eτ.symm rfl rfl
  have t1 : ∀ a, a ≠ 0 → τ a = σ2 a := fun a ha => by rw [eτ, zs_other ha, zs_other ha, zs_other ha]
  have t2 : ∀ a, a ≠ 0 → (a ≤ 33 ∨ 93 ≤ a) → τ a = fun _ => 0 := fun a ha hb => by rw [t1 a ha, g1 a hb]; exact hz a (by omega)
  have r1 : ∀ r, r < 10 → τ (1 + r) = fun _ => 0 := fun r hr => t2 _ (by omega) (by omega)
  have F := zFin_0 r1
  obtain ⟨⟨d, r, V⟩, -⟩ := F.2.1
  have mr : ∀ p, p ≠ 0 → zMr σ2 p → zMr τ p := fun p hp h => by
    obtain ⟨h0, h1⟩ := h
    refine ⟨by rw [t1 p hp]; exact h0, fun k hk => ?_⟩
    rw [t1 (p + 1) (by omega), t1 (p + 2) (by omega), t1 (p + 3) (by omega), t1 (p + 4) (by omega), t1 (p + 5) (by omega), t1 (p + 6) (by omega), t1 (p + 7) (by omega)]
    exact h1 k hk
  have z1 : τ 1 = fun _ => 0 := t2 1 (by decide) (by decide)
  refine g_aload_n (i := 0) (by decide +kernel) rfl ?_
  refine g_getr f_Nc_34 (by decide +kernel) (by omega) rfl rfl ?_
  refine g_cVV (st := _) (c_Sg_prepare (by omega) (zGood_0 r1) V (fun k hk => absurd hk (by rw [z1]; exact Nat.not_lt_zero _)) (fun k _ => by rw [t2 26 (by decide) (by decide)]; exact Or.inl rfl) ⟨mr 34 (by decide) g2, fun j hj => mr _ (by omega) (g3 j hj)⟩) k_Sg_prepare l_Nc_87 (by decide +kernel) (by omega) rfl rfl rfl rfl (Nat.le_of_ble_eq_true rfl) (by decide) ⟨by decide, by decide⟩ ?_
  rintro υ ⟨p1, p2⟩
  refine g_retV (by decide +kernel) rfl ⟨by decide, by decide⟩ ?_
  refine ⟨p2, fun a ha => by rw [p1 a (by omega)]; exact t2 a (by omega) (by omega), ?_⟩
  rw [p1 0 (by decide), eτ]
  exact ⟨by rw [zs_ne (by decide), zs_ne (by decide), zs_eq], by rw [zs_ne (by decide), zs_eq], by rw [zs_eq]⟩
