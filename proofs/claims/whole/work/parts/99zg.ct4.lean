theorem c_Md_init {G : zG} {σ : zSt} (hz : ∀ k, 189 < k → σ k = fun _ => 0) : Gm G y_Md_init m_Md_init 1 30 7478 [vr G 189] 190 (zu SH 189 (.inl (10, z0_Md))) σ (zV 220 SH (fun σ' => (∀ a, a ≠ 189 → a ≠ 197 → σ' a = σ a) ∧ (∀ j, j ≠ 12 → j ≠ 13 → σ' 189 j = σ 189 j) ∧ (σ' 189 12 = -1 ∧ σ' 189 13 = -1) ∧ ∀ k, k < 16 → σ' 197 k = zke.getD k 0)) := by
  refine g_enter (L := [(0, _)]) (by decide) rfl rfl rfl (Nat.le_of_ble_eq_true rfl) (fun X => ?_)
  refine g_aload_n (i := 0) (by decide +kernel) rfl ?_
  refine g_obj lo_Md (by decide +kernel) (Nat.le_of_ble_eq_true rfl) (by omega) ?_
  refine g_aload_n (i := 0) (by decide +kernel) rfl ?_
  refine g_sipush (a := 1940) (by decide +kernel) (by decide) ?_
  refine g_nwI (N := 1940) (κ' := (1, 1, 1940, 30, 7478)) (n' := 191) (by decide +kernel) rfl (by decide) ((zu_ne (by decide)).trans rfl) (hz _ (by omega)) ⟨by decide, by decide⟩ rfl rfl ?_
  refine g_ptF f_Md_7 (fl' := [.inl (some 190), .inr .int, .inr .int, .inr .int, .inr .int, .inl none, .inl none, .inl none, .inl none, .inl none, .inl none, .inr .int, .inr .int, .inr .int, .inr .int, .inr .int, .inr .int, .inr .int, .inr .int, .inr .int, .inr .int, .inr .long, .inl none, .inl none, .inl none, .inl none, .inl none, .inl none, .inl none, .inl none, .inl none, .inl none, .inl none, .inl none, .inl none, .inr .int, .inr .int, .inl none, .inl none, .inl none, .inl none, .inl none, .inl none, .inr .int, .inr .int, .inl none, .inl none, .inl none, .inl none, .inr .int]) (by decide +kernel) rfl rfl (by omega) (Nat.le_of_ble_eq_true rfl) rfl rfl rfl ?_
  refine g_aload_n (i := 0) (by decide +kernel) rfl ?_
  refine g_bipush (a := 12) (by decide +kernel) (by decide) ?_
  refine g_nwJ (N := 12) (κ' := (1, 2, 1952, 30, 7478)) (n' := 192) (by decide +kernel) rfl (by decide) ((zu_ne (by decide)).trans rfl) (hz _ (by omega)) ⟨by decide, by decide⟩ rfl rfl ?_
  refine g_ptF f_Md_13 (fl' := [.inl (some 190), .inr .int, .inr .int, .inr .int, .inr .int, .inl (some 191), .inl none, .inl none, .inl none, .inl none, .inl none, .inr .int, .inr .int, .inr .int, .inr .int, .inr .int, .inr .int, .inr .int, .inr .int, .inr .int, .inr .int, .inr .long, .inl none, .inl none, .inl none, .inl none, .inl none, .inl none, .inl none, .inl none, .inl none, .inl none, .inl none, .inl none, .inl none, .inr .int, .inr .int, .inl none, .inl none, .inl none, .inl none, .inl none, .inl none, .inr .int, .inr .int, .inl none, .inl none, .inl none, .inl none, .inr .int]) (by decide +kernel) rfl rfl (by omega) (Nat.le_of_ble_eq_true rfl) rfl rfl rfl ?_
  refine g_aload_n (i := 0) (by decide +kernel) rfl ?_
  refine g_bipush (a := 12) (by decide +kernel) (by decide) ?_
  refine g_nwJ (N := 12) (κ' := (1, 3, 1964, 30, 7478)) (n' := 193) (by decide +kernel) rfl (by decide) ((zu_ne (by decide)).trans rfl) (hz _ (by omega)) ⟨by decide, by decide⟩ rfl rfl ?_
  refine g_ptF f_Md_17 (fl' := [.inl (some 190), .inr .int, .inr .int, .inr .int, .inr .int, .inl (some 191), .inl (some 192), .inl none, .inl none, .inl none, .inl none, .inr .int, .inr .int, .inr .int, .inr .int, .inr .int, .inr .int, .inr .int, .inr .int, .inr .int, .inr .int, .inr .long, .inl none, .inl none, .inl none, .inl none, .inl none, .inl none, .inl none, .inl none, .inl none, .inl none, .inl none, .inl none, .inl none, .inr .int, .inr .int, .inl none, .inl none, .inl none, .inl none, .inl none, .inl none, .inr .int, .inr .int, .inl none, .inl none, .inl none, .inl none, .inr .int]) (by decide +kernel) rfl rfl (by omega) (Nat.le_of_ble_eq_true rfl) rfl rfl rfl ?_
  refine g_aload_n (i := 0) (by decide +kernel) rfl ?_
  refine g_bipush (a := 12) (by decide +kernel) (by decide) ?_
  refine g_nwJ (N := 12) (κ' := (1, 4, 1976, 30, 7478)) (n' := 194) (by decide +kernel) rfl (by decide) ((zu_ne (by decide)).trans rfl) (hz _ (by omega)) ⟨by decide, by decide⟩ rfl rfl ?_
  refine g_ptF f_Md_20 (fl' := [.inl (some 190), .inr .int, .inr .int, .inr .int, .inr .int, .inl (some 191), .inl (some 192), .inl (some 193), .inl none, .inl none, .inl none, .inr .int, .inr .int, .inr .int, .inr .int, .inr .int, .inr .int, .inr .int, .inr .int, .inr .int, .inr .int, .inr .long, .inl none, .inl none, .inl none, .inl none, .inl none, .inl none, .inl none, .inl none, .inl none, .inl none, .inl none, .inl none, .inl none, .inr .int, .inr .int, .inl none, .inl none, .inl none, .inl none, .inl none, .inl none, .inr .int, .inr .int, .inl none, .inl none, .inl none, .inl none, .inr .int]) (by decide +kernel) rfl rfl (by omega) (Nat.le_of_ble_eq_true rfl) rfl rfl rfl ?_
  refine g_aload_n (i := 0) (by decide +kernel) rfl ?_
  refine g_bipush (a := 12) (by decide +kernel) (by decide) ?_
  refine g_nwZ (N := 12) (κ' := (1, 5, 1988, 30, 7478)) (n' := 195) (by decide +kernel) rfl (by decide) ((zu_ne (by decide)).trans rfl) (hz _ (by omega)) ⟨by decide, by decide⟩ rfl rfl ?_
  refine g_ptF f_Md_23 (fl' := [.inl (some 190), .inr .int, .inr .int, .inr .int, .inr .int, .inl (some 191), .inl (some 192), .inl (some 193), .inl (some 194), .inl none, .inl none, .inr .int, .inr .int, .inr .int, .inr .int, .inr .int, .inr .int, .inr .int, .inr .int, .inr .int, .inr .int, .inr .long, .inl none, .inl none, .inl none, .inl none, .inl none, .inl none, .inl none, .inl none, .inl none, .inl none, .inl none, .inl none, .inl none, .inr .int, .inr .int, .inl none, .inl none, .inl none, .inl none, .inl none, .inl none, .inr .int, .inr .int, .inl none, .inl none, .inl none, .inl none, .inr .int]) (by decide +kernel) rfl rfl (by omega) (Nat.le_of_ble_eq_true rfl) rfl rfl rfl ?_
  refine g_aload_n (i := 0) (by decide +kernel) rfl ?_
  refine g_bipush (a := 12) (by decide +kernel) (by decide) ?_
  refine g_nwZ (N := 12) (κ' := (1, 6, 2000, 30, 7478)) (n' := 196) (by decide +kernel) rfl (by decide) ((zu_ne (by decide)).trans rfl) (hz _ (by omega)) ⟨by decide, by decide⟩ rfl rfl ?_
  refine g_ptF f_Md_27 (fl' := [.inl (some 190), .inr .int, .inr .int, .inr .int, .inr .int, .inl (some 191), .inl (some 192), .inl (some 193), .inl (some 194), .inl (some 195), .inl none, .inr .int, .inr .int, .inr .int, .inr .int, .inr .int, .inr .int, .inr .int, .inr .int, .inr .int, .inr .int, .inr .long, .inl none, .inl none, .inl none, .inl none, .inl none, .inl none, .inl none, .inl none, .inl none, .inl none, .inl none, .inl none, .inl none, .inr .int, .inr .int, .inl none, .inl none, .inl none, .inl none, .inl none, .inl none, .inr .int, .inr .int, .inl none, .inl none, .inl none, .inl none, .inr .int]) (by decide +kernel) rfl rfl (by omega) (Nat.le_of_ble_eq_true rfl) rfl rfl rfl ?_
  refine g_aload_n (i := 0) (by decide +kernel) rfl ?_
  refine g_sipush (a := 600) (by decide +kernel) (by decide) ?_
  refine g_nwB (N := 600) (κ' := (1, 7, 2600, 30, 7478)) (n' := 197) (by decide +kernel) rfl (by decide) ((zu_ne (by decide)).trans rfl) (hz _ (by omega)) ⟨by decide, by decide⟩ rfl rfl ?_
  refine g_ptF f_Md_30 (fl' := [.inl (some 190), .inr .int, .inr .int, .inr .int, .inr .int, .inl (some 191), .inl (some 192), .inl (some 193), .inl (some 194), .inl (some 195), .inl (some 196), .inr .int, .inr .int, .inr .int, .inr .int, .inr .int, .inr .int, .inr .int, .inr .int, .inr .int, .inr .int, .inr .long, .inl none, .inl none, .inl none, .inl none, .inl none, .inl none, .inl none, .inl none, .inl none, .inl none, .inl none, .inl none, .inl none, .inr .int, .inr .int, .inl none, .inl none, .inl none, .inl none, .inl none, .inl none, .inr .int, .inr .int, .inl none, .inl none, .inl none, .inl none, .inr .int]) (by decide +kernel) rfl rfl (by omega) (Nat.le_of_ble_eq_true rfl) rfl rfl rfl ?_
  refine g_aload_n (i := 0) (by decide +kernel) rfl ?_
  refine g_iconst (a := -1) (by decide +kernel) ?_
  refine g_puti f_Md_34 (by decide +kernel) (by omega) (zu_eq _ _ _) rfl ?_
  refine g_aload_n (i := 0) (by decide +kernel) rfl ?_
  refine g_iconst (a := -1) (by decide +kernel) ?_
  refine g_puti f_Md_38 (by decide +kernel) (by omega) (zu_eq _ _ _) rfl ?_
  refine g_aload_n (i := 0) (by decide +kernel) rfl ?_
  refine g_bipush (a := 16) (by decide +kernel) (by decide) ?_
  refine g_nwJ (N := 16) (κ' := (1, 8, 2616, 30, 7478)) (n' := 198) (by decide +kernel) rfl (by decide) ((zu_ne (by decide)).trans rfl) (by rw [zs_other (by omega), zs_other (by omega)]; exact hz _ (by omega)) ⟨by decide, by decide⟩ rfl rfl ?_
  refine g_dup (by decide +kernel) rfl ?_
  refine g_iconst (a := 0) (by decide +kernel) ?_
  refine g_ldc2 (x := 41) (a := 239874) (by decide +kernel) c_Md_41 (by decide) ?_
  refine g_last (j := 0) (by decide +kernel) (by omega) ((zu_ne (by decide)).trans rfl) rfl (by decide) (by decide) ?_
  refine g_dup (by decide +kernel) rfl ?_
  refine g_iconst (a := 1) (by decide +kernel) ?_
  refine g_ldc2 (x := 43) (a := 11709) (by decide +kernel) c_Md_43 (by decide) ?_
  refine g_last (j := 1) (by decide +kernel) (by omega) ((zu_ne (by decide)).trans rfl) rfl (by decide) (by decide) ?_
  refine g_dup (by decide +kernel) rfl ?_
  refine g_iconst (a := 2) (by decide +kernel) ?_
  refine g_ldc2 (x := 45) (a := 14003) (by decide +kernel) c_Md_45 (by decide) ?_
  refine g_last (j := 2) (by decide +kernel) (by omega) ((zu_ne (by decide)).trans rfl) rfl (by decide) (by decide) ?_
  refine g_dup (by decide +kernel) rfl ?_
  refine g_iconst (a := 3) (by decide +kernel) ?_
  refine g_ldc2 (x := 47) (a := 3501) (by decide +kernel) c_Md_47 (by decide) ?_
  refine g_last (j := 3) (by decide +kernel) (by omega) ((zu_ne (by decide)).trans rfl) rfl (by decide) (by decide) ?_
  refine g_dup (by decide +kernel) rfl ?_
  refine g_iconst (a := 4) (by decide +kernel) ?_
  refine g_ldc2 (x := 49) (a := 355568) (by decide +kernel) c_Md_49 (by decide) ?_
  refine g_last (j := 4) (by decide +kernel) (by omega) ((zu_ne (by decide)).trans rfl) rfl (by decide) (by decide) ?_
  refine g_dup (by decide +kernel) rfl ?_
  refine g_iconst (a := 5) (by decide +kernel) ?_
  refine g_ldc2 (x := 51) (a := 10815598) (by decide +kernel) c_Md_51 (by decide) ?_
  refine g_last (j := 5) (by decide +kernel) (by omega) ((zu_ne (by decide)).trans rfl) rfl (by decide) (by decide) ?_
  refine g_dup (by decide +kernel) rfl ?_
  refine g_bipush (a := 6) (by decide +kernel) (by decide) ?_
  refine g_ldc2 (x := 53) (a := 2774) (by decide +kernel) c_Md_53 (by decide) ?_
  refine g_last (j := 6) (by decide +kernel) (by omega) ((zu_ne (by decide)).trans rfl) rfl (by decide) (by decide) ?_
  refine g_dup (by decide +kernel) rfl ?_
  refine g_bipush (a := 7) (by decide +kernel) (by decide) ?_
  refine g_ldc2 (x := 55) (a := 40187) (by decide +kernel) c_Md_55 (by decide) ?_
  refine g_last (j := 7) (by decide +kernel) (by omega) ((zu_ne (by decide)).trans rfl) rfl (by decide) (by decide) ?_
  refine g_dup (by decide +kernel) rfl ?_
  refine g_bipush (a := 8) (by decide +kernel) (by decide) ?_
  refine g_ldc2 (x := 57) (a := 168727) (by decide +kernel) c_Md_57 (by decide) ?_
  refine g_last (j := 8) (by decide +kernel) (by omega) ((zu_ne (by decide)).trans rfl) rfl (by decide) (by decide) ?_
  refine g_dup (by decide +kernel) rfl ?_
  refine g_bipush (a := 9) (by decide +kernel) (by decide) ?_
  refine g_ldc2 (x := 59) (a := 6415353) (by decide +kernel) c_Md_59 (by decide) ?_
  refine g_last (j := 9) (by decide +kernel) (by omega) ((zu_ne (by decide)).trans rfl) rfl (by decide) (by decide) ?_
  refine g_dup (by decide +kernel) rfl ?_
  refine g_bipush (a := 10) (by decide +kernel) (by decide) ?_
  refine g_ldc2 (x := 61) (a := 257) (by decide +kernel) c_Md_61 (by decide) ?_
  refine g_last (j := 10) (by decide +kernel) (by omega) ((zu_ne (by decide)).trans rfl) rfl (by decide) (by decide) ?_
  refine g_dup (by decide +kernel) rfl ?_
  refine g_bipush (a := 11) (by decide +kernel) (by decide) ?_
  refine g_ldc2 (x := 63) (a := 11522) (by decide +kernel) c_Md_63 (by decide) ?_
  refine g_last (j := 11) (by decide +kernel) (by omega) ((zu_ne (by decide)).trans rfl) rfl (by decide) (by decide) ?_
  refine g_dup (by decide +kernel) rfl ?_
  refine g_bipush (a := 12) (by decide +kernel) (by decide) ?_
  refine g_ldc2 (x := 65) (a := 47) (by decide +kernel) c_Md_65 (by decide) ?_
  refine g_last (j := 12) (by decide +kernel) (by omega) ((zu_ne (by decide)).trans rfl) rfl (by decide) (by decide) ?_
  refine g_dup (by decide +kernel) rfl ?_
  refine g_bipush (a := 13) (by decide +kernel) (by decide) ?_
  refine g_ldc2 (x := 67) (a := 459818) (by decide +kernel) c_Md_67 (by decide) ?_
  refine g_last (j := 13) (by decide +kernel) (by omega) ((zu_ne (by decide)).trans rfl) rfl (by decide) (by decide) ?_
  refine g_dup (by decide +kernel) rfl ?_
  refine g_bipush (a := 14) (by decide +kernel) (by decide) ?_
  refine g_ldc2 (x := 69) (a := 31519426) (by decide +kernel) c_Md_69 (by decide) ?_
  refine g_last (j := 14) (by decide +kernel) (by omega) ((zu_ne (by decide)).trans rfl) rfl (by decide) (by decide) ?_
  refine g_dup (by decide +kernel) rfl ?_
  refine g_bipush (a := 15) (by decide +kernel) (by decide) ?_
  refine g_ldc2 (x := 71) (a := 8861527) (by decide +kernel) c_Md_71 (by decide) ?_
  refine g_last (j := 15) (by decide +kernel) (by omega) ((zu_ne (by decide)).trans rfl) rfl (by decide) (by decide) ?_
  obtain ⟨τ, eτ⟩ : ∃ τ, τ = (zs (zs (zs (zs (zs (zs (zs (zs (zs (zs (zs (zs (zs (zs (zs (zs (zs (zs σ 189 12 (-1)) 189 13 (-1)) 197 0 239874) 197 1 11709) 197 2 14003) 197 3 3501) 197 4 355568) 197 5 10815598) 197 6 2774) 197 7 40187) 197 8 168727) 197 9 6415353) 197 10 257) 197 11 11522) 197 12 47) 197 13 459818) 197 14 31519426) 197 15 8861527) := ⟨_, rfl⟩
  refine g_eq (σ' := τ) ?_ eτ.symm rfl rfl
  have t1 : ∀ a, a ≠ 189 → a ≠ 197 → τ a = σ a := fun a h1 h2 => by rw [eτ, zs_other h2, zs_other h2, zs_other h2, zs_other h2, zs_other h2, zs_other h2, zs_other h2, zs_other h2, zs_other h2, zs_other h2, zs_other h2, zs_other h2, zs_other h2, zs_other h2, zs_other h2, zs_other h2, zs_other h1, zs_other h1]
  have t2 : ∀ j, j ≠ 12 → j ≠ 13 → τ 189 j = σ 189 j := fun j h1 h2 => by rw [eτ, zs_other (by decide), zs_other (by decide), zs_other (by decide), zs_other (by decide), zs_other (by decide), zs_other (by decide), zs_other (by decide), zs_other (by decide), zs_other (by decide), zs_other (by decide), zs_other (by decide), zs_other (by decide), zs_other (by decide), zs_other (by decide), zs_other (by decide), zs_other (by decide), zs_ne (by omega), zs_ne (by omega)]
  have t12 : τ 189 12 = -1 ∧ τ 189 13 = -1 := by rw [eτ]; exact ⟨rfl, rfl⟩
  have tw : ∀ k, k < 16 → τ 197 k = zke.getD k 0 := fun k hk => by
    rw [eτ]
    match k, hk with
    | 0, _ => rfl
    | 1, _ => rfl
    | 2, _ => rfl
    | 3, _ => rfl
    | 4, _ => rfl
    | 5, _ => rfl
    | 6, _ => rfl
    | 7, _ => rfl
    | 8, _ => rfl
    | 9, _ => rfl
    | 10, _ => rfl
    | 11, _ => rfl
    | 12, _ => rfl
    | 13, _ => rfl
    | 14, _ => rfl
    | 15, _ => rfl
    | k + 16, hk => exact absurd hk (by omega)
  have hz9 : ∀ k, 197 < k → τ k = fun _ => 0 := fun k hk => by rw [t1 k (by omega) (by omega)]; exact hz k (by omega)
  refine g_ptF f_Md_73 (fl' := [.inl (some 190), .inr .int, .inr .int, .inr .int, .inr .int, .inl (some 191), .inl (some 192), .inl (some 193), .inl (some 194), .inl (some 195), .inl (some 196), .inr .int, .inr .int, .inr .int, .inr .int, .inr .int, .inr .int, .inr .int, .inr .int, .inr .int, .inr .int, .inr .long, .inl (some 197), .inl none, .inl none, .inl none, .inl none, .inl none, .inl none, .inl none, .inl none, .inl none, .inl none, .inl none, .inl none, .inr .int, .inr .int, .inl none, .inl none, .inl none, .inl none, .inl none, .inl none, .inr .int, .inr .int, .inl none, .inl none, .inl none, .inl none, .inr .int]) (by decide +kernel) rfl rfl (by omega) (Nat.le_of_ble_eq_true rfl) rfl rfl rfl ?_
  refine g_aload_n (i := 0) (by decide +kernel) rfl ?_
  refine g_bipush (a := 12) (by decide +kernel) (by decide) ?_
  refine g_nwJ (N := 12) (κ' := (1, 9, 2628, 30, 7478)) (n' := 199) (by decide +kernel) rfl (by decide) ((zu_ne (by decide)).trans rfl) (hz9 _ (by omega)) ⟨by decide, by decide⟩ rfl rfl ?_
  refine g_ptF f_Md_76 (fl' := [.inl (some 190), .inr .int, .inr .int, .inr .int, .inr .int, .inl (some 191), .inl (some 192), .inl (some 193), .inl (some 194), .inl (some 195), .inl (some 196), .inr .int, .inr .int, .inr .int, .inr .int, .inr .int, .inr .int, .inr .int, .inr .int, .inr .int, .inr .int, .inr .long, .inl (some 197), .inl (some 198), .inl none, .inl none, .inl none, .inl none, .inl none, .inl none, .inl none, .inl none, .inl none, .inl none, .inl none, .inr .int, .inr .int, .inl none, .inl none, .inl none, .inl none, .inl none, .inl none, .inr .int, .inr .int, .inl none, .inl none, .inl none, .inl none, .inr .int]) (by decide +kernel) rfl rfl (by omega) (Nat.le_of_ble_eq_true rfl) rfl rfl rfl ?_
  refine g_aload_n (i := 0) (by decide +kernel) rfl ?_
  refine g_bipush (a := 12) (by decide +kernel) (by decide) ?_
  refine g_nwJ (N := 12) (κ' := (1, 10, 2640, 30, 7478)) (n' := 200) (by decide +kernel) rfl (by decide) ((zu_ne (by decide)).trans rfl) (hz9 _ (by omega)) ⟨by decide, by decide⟩ rfl rfl ?_
  refine g_ptF f_Md_79 (fl' := [.inl (some 190), .inr .int, .inr .int, .inr .int, .inr .int, .inl (some 191), .inl (some 192), .inl (some 193), .inl (some 194), .inl (some 195), .inl (some 196), .inr .int, .inr .int, .inr .int, .inr .int, .inr .int, .inr .int, .inr .int, .inr .int, .inr .int, .inr .int, .inr .long, .inl (some 197), .inl (some 198), .inl (some 199), .inl none, .inl none, .inl none, .inl none, .inl none, .inl none, .inl none, .inl none, .inl none, .inl none, .inr .int, .inr .int, .inl none, .inl none, .inl none, .inl none, .inl none, .inl none, .inr .int, .inr .int, .inl none, .inl none, .inl none, .inl none, .inr .int]) (by decide +kernel) rfl rfl (by omega) (Nat.le_of_ble_eq_true rfl) rfl rfl rfl ?_
  refine g_aload_n (i := 0) (by decide +kernel) rfl ?_
  refine g_bipush (a := 12) (by decide +kernel) (by decide) ?_
  refine g_nwI (N := 12) (κ' := (1, 11, 2652, 30, 7478)) (n' := 201) (by decide +kernel) rfl (by decide) ((zu_ne (by decide)).trans rfl) (hz9 _ (by omega)) ⟨by decide, by decide⟩ rfl rfl ?_
  refine g_ptF f_Md_82 (fl' := [.inl (some 190), .inr .int, .inr .int, .inr .int, .inr .int, .inl (some 191), .inl (some 192), .inl (some 193), .inl (some 194), .inl (some 195), .inl (some 196), .inr .int, .inr .int, .inr .int, .inr .int, .inr .int, .inr .int, .inr .int, .inr .int, .inr .int, .inr .int, .inr .long, .inl (some 197), .inl (some 198), .inl (some 199), .inl (some 200), .inl none, .inl none, .inl none, .inl none, .inl none, .inl none, .inl none, .inl none, .inl none, .inr .int, .inr .int, .inl none, .inl none, .inl none, .inl none, .inl none, .inl none, .inr .int, .inr .int, .inl none, .inl none, .inl none, .inl none, .inr .int]) (by decide +kernel) rfl rfl (by omega) (Nat.le_of_ble_eq_true rfl) rfl rfl rfl ?_
  refine g_aload_n (i := 0) (by decide +kernel) rfl ?_
  refine g_bipush (a := 12) (by decide +kernel) (by decide) ?_
  refine g_nwI (N := 12) (κ' := (1, 12, 2664, 30, 7478)) (n' := 202) (by decide +kernel) rfl (by decide) ((zu_ne (by decide)).trans rfl) (hz9 _ (by omega)) ⟨by decide, by decide⟩ rfl rfl ?_
  refine g_ptF f_Md_85 (fl' := [.inl (some 190), .inr .int, .inr .int, .inr .int, .inr .int, .inl (some 191), .inl (some 192), .inl (some 193), .inl (some 194), .inl (some 195), .inl (some 196), .inr .int, .inr .int, .inr .int, .inr .int, .inr .int, .inr .int, .inr .int, .inr .int, .inr .int, .inr .int, .inr .long, .inl (some 197), .inl (some 198), .inl (some 199), .inl (some 200), .inl (some 201), .inl none, .inl none, .inl none, .inl none, .inl none, .inl none, .inl none, .inl none, .inr .int, .inr .int, .inl none, .inl none, .inl none, .inl none, .inl none, .inl none, .inr .int, .inr .int, .inl none, .inl none, .inl none, .inl none, .inr .int]) (by decide +kernel) rfl rfl (by omega) (Nat.le_of_ble_eq_true rfl) rfl rfl rfl ?_
  refine g_aload_n (i := 0) (by decide +kernel) rfl ?_
  refine g_bipush (a := 96) (by decide +kernel) (by decide) ?_
  refine g_nwI (N := 96) (κ' := (1, 13, 2760, 30, 7478)) (n' := 203) (by decide +kernel) rfl (by decide) ((zu_ne (by decide)).trans rfl) (hz9 _ (by omega)) ⟨by decide, by decide⟩ rfl rfl ?_
  refine g_ptF f_Md_88 (fl' := [.inl (some 190), .inr .int, .inr .int, .inr .int, .inr .int, .inl (some 191), .inl (some 192), .inl (some 193), .inl (some 194), .inl (some 195), .inl (some 196), .inr .int, .inr .int, .inr .int, .inr .int, .inr .int, .inr .int, .inr .int, .inr .int, .inr .int, .inr .int, .inr .long, .inl (some 197), .inl (some 198), .inl (some 199), .inl (some 200), .inl (some 201), .inl (some 202), .inl none, .inl none, .inl none, .inl none, .inl none, .inl none, .inl none, .inr .int, .inr .int, .inl none, .inl none, .inl none, .inl none, .inl none, .inl none, .inr .int, .inr .int, .inl none, .inl none, .inl none, .inl none, .inr .int]) (by decide +kernel) rfl rfl (by omega) (Nat.le_of_ble_eq_true rfl) rfl rfl rfl ?_
  refine g_aload_n (i := 0) (by decide +kernel) rfl ?_
  refine g_bipush (a := 96) (by decide +kernel) (by decide) ?_
  refine g_nwJ (N := 96) (κ' := (1, 14, 2856, 30, 7478)) (n' := 204) (by decide +kernel) rfl (by decide) ((zu_ne (by decide)).trans rfl) (hz9 _ (by omega)) ⟨by decide, by decide⟩ rfl rfl ?_
  refine g_ptF f_Md_91 (fl' := [.inl (some 190), .inr .int, .inr .int, .inr .int, .inr .int, .inl (some 191), .inl (some 192), .inl (some 193), .inl (some 194), .inl (some 195), .inl (some 196), .inr .int, .inr .int, .inr .int, .inr .int, .inr .int, .inr .int, .inr .int, .inr .int, .inr .int, .inr .int, .inr .long, .inl (some 197), .inl (some 198), .inl (some 199), .inl (some 200), .inl (some 201), .inl (some 202), .inl (some 203), .inl none, .inl none, .inl none, .inl none, .inl none, .inl none, .inr .int, .inr .int, .inl none, .inl none, .inl none, .inl none, .inl none, .inl none, .inr .int, .inr .int, .inl none, .inl none, .inl none, .inl none, .inr .int]) (by decide +kernel) rfl rfl (by omega) (Nat.le_of_ble_eq_true rfl) rfl rfl rfl ?_
  refine g_aload_n (i := 0) (by decide +kernel) rfl ?_
  refine g_bipush (a := 96) (by decide +kernel) (by decide) ?_
  refine g_nwJ (N := 96) (κ' := (1, 15, 2952, 30, 7478)) (n' := 205) (by decide +kernel) rfl (by decide) ((zu_ne (by decide)).trans rfl) (hz9 _ (by omega)) ⟨by decide, by decide⟩ rfl rfl ?_
  refine g_ptF f_Md_94 (fl' := [.inl (some 190), .inr .int, .inr .int, .inr .int, .inr .int, .inl (some 191), .inl (some 192), .inl (some 193), .inl (some 194), .inl (some 195), .inl (some 196), .inr .int, .inr .int, .inr .int, .inr .int, .inr .int, .inr .int, .inr .int, .inr .int, .inr .int, .inr .int, .inr .long, .inl (some 197), .inl (some 198), .inl (some 199), .inl (some 200), .inl (some 201), .inl (some 202), .inl (some 203), .inl (some 204), .inl none, .inl none, .inl none, .inl none, .inl none, .inr .int, .inr .int, .inl none, .inl none, .inl none, .inl none, .inl none, .inl none, .inr .int, .inr .int, .inl none, .inl none, .inl none, .inl none, .inr .int]) (by decide +kernel) rfl rfl (by omega) (Nat.le_of_ble_eq_true rfl) rfl rfl rfl ?_
  refine g_aload_n (i := 0) (by decide +kernel) rfl ?_
  refine g_bipush (a := 96) (by decide +kernel) (by decide) ?_
  refine g_nwJ (N := 96) (κ' := (1, 16, 3048, 30, 7478)) (n' := 206) (by decide +kernel) rfl (by decide) ((zu_ne (by decide)).trans rfl) (hz9 _ (by omega)) ⟨by decide, by decide⟩ rfl rfl ?_
  refine g_ptF f_Md_97 (fl' := [.inl (some 190), .inr .int, .inr .int, .inr .int, .inr .int, .inl (some 191), .inl (some 192), .inl (some 193), .inl (some 194), .inl (some 195), .inl (some 196), .inr .int, .inr .int, .inr .int, .inr .int, .inr .int, .inr .int, .inr .int, .inr .int, .inr .int, .inr .int, .inr .long, .inl (some 197), .inl (some 198), .inl (some 199), .inl (some 200), .inl (some 201), .inl (some 202), .inl (some 203), .inl (some 204), .inl (some 205), .inl none, .inl none, .inl none, .inl none, .inr .int, .inr .int, .inl none, .inl none, .inl none, .inl none, .inl none, .inl none, .inr .int, .inr .int, .inl none, .inl none, .inl none, .inl none, .inr .int]) (by decide +kernel) rfl rfl (by omega) (Nat.le_of_ble_eq_true rfl) rfl rfl rfl ?_
  refine g_aload_n (i := 0) (by decide +kernel) rfl ?_
  refine g_bipush (a := 96) (by decide +kernel) (by decide) ?_
  refine g_nwI (N := 96) (κ' := (1, 17, 3144, 30, 7478)) (n' := 207) (by decide +kernel) rfl (by decide) ((zu_ne (by decide)).trans rfl) (hz9 _ (by omega)) ⟨by decide, by decide⟩ rfl rfl ?_
  refine g_ptF f_Md_100 (fl' := [.inl (some 190), .inr .int, .inr .int, .inr .int, .inr .int, .inl (some 191), .inl (some 192), .inl (some 193), .inl (some 194), .inl (some 195), .inl (some 196), .inr .int, .inr .int, .inr .int, .inr .int, .inr .int, .inr .int, .inr .int, .inr .int, .inr .int, .inr .int, .inr .long, .inl (some 197), .inl (some 198), .inl (some 199), .inl (some 200), .inl (some 201), .inl (some 202), .inl (some 203), .inl (some 204), .inl (some 205), .inl (some 206), .inl none, .inl none, .inl none, .inr .int, .inr .int, .inl none, .inl none, .inl none, .inl none, .inl none, .inl none, .inr .int, .inr .int, .inl none, .inl none, .inl none, .inl none, .inr .int]) (by decide +kernel) rfl rfl (by omega) (Nat.le_of_ble_eq_true rfl) rfl rfl rfl ?_
  refine g_aload_n (i := 0) (by decide +kernel) rfl ?_
  refine g_bipush (a := 6) (by decide +kernel) (by decide) ?_
  refine g_nwI (N := 6) (κ' := (1, 18, 3150, 30, 7478)) (n' := 208) (by decide +kernel) rfl (by decide) ((zu_ne (by decide)).trans rfl) (hz9 _ (by omega)) ⟨by decide, by decide⟩ rfl rfl ?_
  refine g_ptF f_Md_103 (fl' := [.inl (some 190), .inr .int, .inr .int, .inr .int, .inr .int, .inl (some 191), .inl (some 192), .inl (some 193), .inl (some 194), .inl (some 195), .inl (some 196), .inr .int, .inr .int, .inr .int, .inr .int, .inr .int, .inr .int, .inr .int, .inr .int, .inr .int, .inr .int, .inr .long, .inl (some 197), .inl (some 198), .inl (some 199), .inl (some 200), .inl (some 201), .inl (some 202), .inl (some 203), .inl (some 204), .inl (some 205), .inl (some 206), .inl (some 207), .inl none, .inl none, .inr .int, .inr .int, .inl none, .inl none, .inl none, .inl none, .inl none, .inl none, .inr .int, .inr .int, .inl none, .inl none, .inl none, .inl none, .inr .int]) (by decide +kernel) rfl rfl (by omega) (Nat.le_of_ble_eq_true rfl) rfl rfl rfl ?_
  refine g_aload_n (i := 0) (by decide +kernel) rfl ?_
  refine g_bipush (a := 12) (by decide +kernel) (by decide) ?_
  refine g_nwI (N := 12) (κ' := (1, 19, 3162, 30, 7478)) (n' := 209) (by decide +kernel) rfl (by decide) ((zu_ne (by decide)).trans rfl) (hz9 _ (by omega)) ⟨by decide, by decide⟩ rfl rfl ?_
  refine g_ptF f_Md_106 (fl' := [.inl (some 190), .inr .int, .inr .int, .inr .int, .inr .int, .inl (some 191), .inl (some 192), .inl (some 193), .inl (some 194), .inl (some 195), .inl (some 196), .inr .int, .inr .int, .inr .int, .inr .int, .inr .int, .inr .int, .inr .int, .inr .int, .inr .int, .inr .int, .inr .long, .inl (some 197), .inl (some 198), .inl (some 199), .inl (some 200), .inl (some 201), .inl (some 202), .inl (some 203), .inl (some 204), .inl (some 205), .inl (some 206), .inl (some 207), .inl (some 208), .inl none, .inr .int, .inr .int, .inl none, .inl none, .inl none, .inl none, .inl none, .inl none, .inr .int, .inr .int, .inl none, .inl none, .inl none, .inl none, .inr .int]) (by decide +kernel) rfl rfl (by omega) (Nat.le_of_ble_eq_true rfl) rfl rfl rfl ?_
  refine g_aload_n (i := 0) (by decide +kernel) rfl ?_
  refine g_bipush (a := 12) (by decide +kernel) (by decide) ?_
  refine g_nwI (N := 12) (κ' := (1, 20, 3174, 30, 7478)) (n' := 210) (by decide +kernel) rfl (by decide) ((zu_ne (by decide)).trans rfl) (hz9 _ (by omega)) ⟨by decide, by decide⟩ rfl rfl ?_
  refine g_ptF f_Md_109 (fl' := [.inl (some 190), .inr .int, .inr .int, .inr .int, .inr .int, .inl (some 191), .inl (some 192), .inl (some 193), .inl (some 194), .inl (some 195), .inl (some 196), .inr .int, .inr .int, .inr .int, .inr .int, .inr .int, .inr .int, .inr .int, .inr .int, .inr .int, .inr .int, .inr .long, .inl (some 197), .inl (some 198), .inl (some 199), .inl (some 200), .inl (some 201), .inl (some 202), .inl (some 203), .inl (some 204), .inl (some 205), .inl (some 206), .inl (some 207), .inl (some 208), .inl (some 209), .inr .int, .inr .int, .inl none, .inl none, .inl none, .inl none, .inl none, .inl none, .inr .int, .inr .int, .inl none, .inl none, .inl none, .inl none, .inr .int]) (by decide +kernel) rfl rfl (by omega) (Nat.le_of_ble_eq_true rfl) rfl rfl rfl ?_
  refine g_aload_n (i := 0) (by decide +kernel) rfl ?_
  refine g_bipush (a := 12) (by decide +kernel) (by decide) ?_
  refine g_nwI (N := 12) (κ' := (1, 21, 3186, 30, 7478)) (n' := 211) (by decide +kernel) rfl (by decide) ((zu_ne (by decide)).trans rfl) (hz9 _ (by omega)) ⟨by decide, by decide⟩ rfl rfl ?_
  refine g_ptF f_Md_112 (fl' := [.inl (some 190), .inr .int, .inr .int, .inr .int, .inr .int, .inl (some 191), .inl (some 192), .inl (some 193), .inl (some 194), .inl (some 195), .inl (some 196), .inr .int, .inr .int, .inr .int, .inr .int, .inr .int, .inr .int, .inr .int, .inr .int, .inr .int, .inr .int, .inr .long, .inl (some 197), .inl (some 198), .inl (some 199), .inl (some 200), .inl (some 201), .inl (some 202), .inl (some 203), .inl (some 204), .inl (some 205), .inl (some 206), .inl (some 207), .inl (some 208), .inl (some 209), .inr .int, .inr .int, .inl (some 210), .inl none, .inl none, .inl none, .inl none, .inl none, .inr .int, .inr .int, .inl none, .inl none, .inl none, .inl none, .inr .int]) (by decide +kernel) rfl rfl (by omega) (Nat.le_of_ble_eq_true rfl) rfl rfl rfl ?_
  refine g_aload_n (i := 0) (by decide +kernel) rfl ?_
  refine g_bipush (a := 12) (by decide +kernel) (by decide) ?_
  refine g_nwI (N := 12) (κ' := (1, 22, 3198, 30, 7478)) (n' := 212) (by decide +kernel) rfl (by decide) ((zu_ne (by decide)).trans rfl) (hz9 _ (by omega)) ⟨by decide, by decide⟩ rfl rfl ?_
  refine g_ptF f_Md_115 (fl' := [.inl (some 190), .inr .int, .inr .int, .inr .int, .inr .int, .inl (some 191), .inl (some 192), .inl (some 193), .inl (some 194), .inl (some 195), .inl (some 196), .inr .int, .inr .int, .inr .int, .inr .int, .inr .int, .inr .int, .inr .int, .inr .int, .inr .int, .inr .int, .inr .long, .inl (some 197), .inl (some 198), .inl (some 199), .inl (some 200), .inl (some 201), .inl (some 202), .inl (some 203), .inl (some 204), .inl (some 205), .inl (some 206), .inl (some 207), .inl (some 208), .inl (some 209), .inr .int, .inr .int, .inl (some 210), .inl (some 211), .inl none, .inl none, .inl none, .inl none, .inr .int, .inr .int, .inl none, .inl none, .inl none, .inl none, .inr .int]) (by decide +kernel) rfl rfl (by omega) (Nat.le_of_ble_eq_true rfl) rfl rfl rfl ?_
  refine g_aload_n (i := 0) (by decide +kernel) rfl ?_
  refine g_bipush (a := 12) (by decide +kernel) (by decide) ?_
  refine g_nwI (N := 12) (κ' := (1, 23, 3210, 30, 7478)) (n' := 213) (by decide +kernel) rfl (by decide) ((zu_ne (by decide)).trans rfl) (hz9 _ (by omega)) ⟨by decide, by decide⟩ rfl rfl ?_
  refine g_ptF f_Md_118 (fl' := [.inl (some 190), .inr .int, .inr .int, .inr .int, .inr .int, .inl (some 191), .inl (some 192), .inl (some 193), .inl (some 194), .inl (some 195), .inl (some 196), .inr .int, .inr .int, .inr .int, .inr .int, .inr .int, .inr .int, .inr .int, .inr .int, .inr .int, .inr .int, .inr .long, .inl (some 197), .inl (some 198), .inl (some 199), .inl (some 200), .inl (some 201), .inl (some 202), .inl (some 203), .inl (some 204), .inl (some 205), .inl (some 206), .inl (some 207), .inl (some 208), .inl (some 209), .inr .int, .inr .int, .inl (some 210), .inl (some 211), .inl (some 212), .inl none, .inl none, .inl none, .inr .int, .inr .int, .inl none, .inl none, .inl none, .inl none, .inr .int]) (by decide +kernel) rfl rfl (by omega) (Nat.le_of_ble_eq_true rfl) rfl rfl rfl ?_
  refine g_aload_n (i := 0) (by decide +kernel) rfl ?_
  refine g_bipush (a := 12) (by decide +kernel) (by decide) ?_
  refine g_nwI (N := 12) (κ' := (1, 24, 3222, 30, 7478)) (n' := 214) (by decide +kernel) rfl (by decide) ((zu_ne (by decide)).trans rfl) (hz9 _ (by omega)) ⟨by decide, by decide⟩ rfl rfl ?_
  refine g_ptF f_Md_121 (fl' := [.inl (some 190), .inr .int, .inr .int, .inr .int, .inr .int, .inl (some 191), .inl (some 192), .inl (some 193), .inl (some 194), .inl (some 195), .inl (some 196), .inr .int, .inr .int, .inr .int, .inr .int, .inr .int, .inr .int, .inr .int, .inr .int, .inr .int, .inr .int, .inr .long, .inl (some 197), .inl (some 198), .inl (some 199), .inl (some 200), .inl (some 201), .inl (some 202), .inl (some 203), .inl (some 204), .inl (some 205), .inl (some 206), .inl (some 207), .inl (some 208), .inl (some 209), .inr .int, .inr .int, .inl (some 210), .inl (some 211), .inl (some 212), .inl (some 213), .inl none, .inl none, .inr .int, .inr .int, .inl none, .inl none, .inl none, .inl none, .inr .int]) (by decide +kernel) rfl rfl (by omega) (Nat.le_of_ble_eq_true rfl) rfl rfl rfl ?_
  refine g_aload_n (i := 0) (by decide +kernel) rfl ?_
  refine g_sipush (a := 2000) (by decide +kernel) (by decide) ?_
  refine g_nwZ (N := 2000) (κ' := (1, 25, 5222, 30, 7478)) (n' := 215) (by decide +kernel) rfl (by decide) ((zu_ne (by decide)).trans rfl) (hz9 _ (by omega)) ⟨by decide, by decide⟩ rfl rfl ?_
  refine g_ptF f_Md_124 (fl' := [.inl (some 190), .inr .int, .inr .int, .inr .int, .inr .int, .inl (some 191), .inl (some 192), .inl (some 193), .inl (some 194), .inl (some 195), .inl (some 196), .inr .int, .inr .int, .inr .int, .inr .int, .inr .int, .inr .int, .inr .int, .inr .int, .inr .int, .inr .int, .inr .long, .inl (some 197), .inl (some 198), .inl (some 199), .inl (some 200), .inl (some 201), .inl (some 202), .inl (some 203), .inl (some 204), .inl (some 205), .inl (some 206), .inl (some 207), .inl (some 208), .inl (some 209), .inr .int, .inr .int, .inl (some 210), .inl (some 211), .inl (some 212), .inl (some 213), .inl (some 214), .inl none, .inr .int, .inr .int, .inl none, .inl none, .inl none, .inl none, .inr .int]) (by decide +kernel) rfl rfl (by omega) (Nat.le_of_ble_eq_true rfl) rfl rfl rfl ?_
  refine g_aload_n (i := 0) (by decide +kernel) rfl ?_
  refine g_sipush (a := 2000) (by decide +kernel) (by decide) ?_
  refine g_nwJ (N := 2000) (κ' := (1, 26, 7222, 30, 7478)) (n' := 216) (by decide +kernel) rfl (by decide) ((zu_ne (by decide)).trans rfl) (hz9 _ (by omega)) ⟨by decide, by decide⟩ rfl rfl ?_
  refine g_ptF f_Md_127 (fl' := [.inl (some 190), .inr .int, .inr .int, .inr .int, .inr .int, .inl (some 191), .inl (some 192), .inl (some 193), .inl (some 194), .inl (some 195), .inl (some 196), .inr .int, .inr .int, .inr .int, .inr .int, .inr .int, .inr .int, .inr .int, .inr .int, .inr .int, .inr .int, .inr .long, .inl (some 197), .inl (some 198), .inl (some 199), .inl (some 200), .inl (some 201), .inl (some 202), .inl (some 203), .inl (some 204), .inl (some 205), .inl (some 206), .inl (some 207), .inl (some 208), .inl (some 209), .inr .int, .inr .int, .inl (some 210), .inl (some 211), .inl (some 212), .inl (some 213), .inl (some 214), .inl (some 215), .inr .int, .inr .int, .inl none, .inl none, .inl none, .inl none, .inr .int]) (by decide +kernel) rfl rfl (by omega) (Nat.le_of_ble_eq_true rfl) rfl rfl rfl ?_
  refine g_aload_n (i := 0) (by decide +kernel) rfl ?_
  refine g_bipush (a := 64) (by decide +kernel) (by decide) ?_
  refine g_nwI (N := 64) (κ' := (1, 27, 7286, 30, 7478)) (n' := 217) (by decide +kernel) rfl (by decide) ((zu_ne (by decide)).trans rfl) (hz9 _ (by omega)) ⟨by decide, by decide⟩ rfl rfl ?_
  refine g_ptF f_Md_130 (fl' := [.inl (some 190), .inr .int, .inr .int, .inr .int, .inr .int, .inl (some 191), .inl (some 192), .inl (some 193), .inl (some 194), .inl (some 195), .inl (some 196), .inr .int, .inr .int, .inr .int, .inr .int, .inr .int, .inr .int, .inr .int, .inr .int, .inr .int, .inr .int, .inr .long, .inl (some 197), .inl (some 198), .inl (some 199), .inl (some 200), .inl (some 201), .inl (some 202), .inl (some 203), .inl (some 204), .inl (some 205), .inl (some 206), .inl (some 207), .inl (some 208), .inl (some 209), .inr .int, .inr .int, .inl (some 210), .inl (some 211), .inl (some 212), .inl (some 213), .inl (some 214), .inl (some 215), .inr .int, .inr .int, .inl (some 216), .inl none, .inl none, .inl none, .inr .int]) (by decide +kernel) rfl rfl (by omega) (Nat.le_of_ble_eq_true rfl) rfl rfl rfl ?_
  refine g_aload_n (i := 0) (by decide +kernel) rfl ?_
  refine g_bipush (a := 64) (by decide +kernel) (by decide) ?_
  refine g_nwI (N := 64) (κ' := (1, 28, 7350, 30, 7478)) (n' := 218) (by decide +kernel) rfl (by decide) ((zu_ne (by decide)).trans rfl) (hz9 _ (by omega)) ⟨by decide, by decide⟩ rfl rfl ?_
  refine g_ptF f_Md_133 (fl' := [.inl (some 190), .inr .int, .inr .int, .inr .int, .inr .int, .inl (some 191), .inl (some 192), .inl (some 193), .inl (some 194), .inl (some 195), .inl (some 196), .inr .int, .inr .int, .inr .int, .inr .int, .inr .int, .inr .int, .inr .int, .inr .int, .inr .int, .inr .int, .inr .long, .inl (some 197), .inl (some 198), .inl (some 199), .inl (some 200), .inl (some 201), .inl (some 202), .inl (some 203), .inl (some 204), .inl (some 205), .inl (some 206), .inl (some 207), .inl (some 208), .inl (some 209), .inr .int, .inr .int, .inl (some 210), .inl (some 211), .inl (some 212), .inl (some 213), .inl (some 214), .inl (some 215), .inr .int, .inr .int, .inl (some 216), .inl (some 217), .inl none, .inl none, .inr .int]) (by decide +kernel) rfl rfl (by omega) (Nat.le_of_ble_eq_true rfl) rfl rfl rfl ?_
  refine g_aload_n (i := 0) (by decide +kernel) rfl ?_
  refine g_bipush (a := 64) (by decide +kernel) (by decide) ?_
  refine g_nwI (N := 64) (κ' := (1, 29, 7414, 30, 7478)) (n' := 219) (by decide +kernel) rfl (by decide) ((zu_ne (by decide)).trans rfl) (hz9 _ (by omega)) ⟨by decide, by decide⟩ rfl rfl ?_
  refine g_ptF f_Md_136 (fl' := [.inl (some 190), .inr .int, .inr .int, .inr .int, .inr .int, .inl (some 191), .inl (some 192), .inl (some 193), .inl (some 194), .inl (some 195), .inl (some 196), .inr .int, .inr .int, .inr .int, .inr .int, .inr .int, .inr .int, .inr .int, .inr .int, .inr .int, .inr .int, .inr .long, .inl (some 197), .inl (some 198), .inl (some 199), .inl (some 200), .inl (some 201), .inl (some 202), .inl (some 203), .inl (some 204), .inl (some 205), .inl (some 206), .inl (some 207), .inl (some 208), .inl (some 209), .inr .int, .inr .int, .inl (some 210), .inl (some 211), .inl (some 212), .inl (some 213), .inl (some 214), .inl (some 215), .inr .int, .inr .int, .inl (some 216), .inl (some 217), .inl (some 218), .inl none, .inr .int]) (by decide +kernel) rfl rfl (by omega) (Nat.le_of_ble_eq_true rfl) rfl rfl rfl ?_
  refine g_aload_n (i := 0) (by decide +kernel) rfl ?_
  refine g_bipush (a := 64) (by decide +kernel) (by decide) ?_
  refine g_nwI (N := 64) (κ' := (1, 30, 7478, 30, 7478)) (n' := 220) (by decide +kernel) rfl (by decide) ((zu_ne (by decide)).trans rfl) (hz9 _ (by omega)) ⟨by decide, by decide⟩ rfl rfl ?_
  refine g_ptF f_Md_139 (fl' := [.inl (some 190), .inr .int, .inr .int, .inr .int, .inr .int, .inl (some 191), .inl (some 192), .inl (some 193), .inl (some 194), .inl (some 195), .inl (some 196), .inr .int, .inr .int, .inr .int, .inr .int, .inr .int, .inr .int, .inr .int, .inr .int, .inr .int, .inr .int, .inr .long, .inl (some 197), .inl (some 198), .inl (some 199), .inl (some 200), .inl (some 201), .inl (some 202), .inl (some 203), .inl (some 204), .inl (some 205), .inl (some 206), .inl (some 207), .inl (some 208), .inl (some 209), .inr .int, .inr .int, .inl (some 210), .inl (some 211), .inl (some 212), .inl (some 213), .inl (some 214), .inl (some 215), .inr .int, .inr .int, .inl (some 216), .inl (some 217), .inl (some 218), .inl (some 219), .inr .int]) (by decide +kernel) rfl rfl (by omega) (Nat.le_of_ble_eq_true rfl) rfl rfl rfl ?_
  rw [zu_id (show SH 189 = .inl (10, [.inl (some 190), .inr .int, .inr .int, .inr .int, .inr .int, .inl (some 191), .inl (some 192), .inl (some 193), .inl (some 194), .inl (some 195), .inl (some 196), .inr .int, .inr .int, .inr .int, .inr .int, .inr .int, .inr .int, .inr .int, .inr .int, .inr .int, .inr .int, .inr .long, .inl (some 197), .inl (some 198), .inl (some 199), .inl (some 200), .inl (some 201), .inl (some 202), .inl (some 203), .inl (some 204), .inl (some 205), .inl (some 206), .inl (some 207), .inl (some 208), .inl (some 209), .inr .int, .inr .int, .inl (some 210), .inl (some 211), .inl (some 212), .inl (some 213), .inl (some 214), .inl (some 215), .inr .int, .inr .int, .inl (some 216), .inl (some 217), .inl (some 218), .inl (some 219), .inr .int]) from rfl)]
  refine g_retV (by decide +kernel) rfl ⟨by decide, by decide⟩ ?_
  exact ⟨t1, t2, t12, tw⟩
