/-! ACTS of the class -/
theorem zSame2.of {A B : zSt} (h : ∀ r, r < 10 → A r = B r) : zSame2 A B := ⟨⟨by rw [h 0 (by decide)], by rw [h 0 (by decide)]⟩, fun r h1 h2 k _ => by rw [h r (by omega)], fun k _ => by rw [h 7 (by decide)], fun i _ => ⟨by rw [h 8 (by decide)], by rw [h 9 (by decide)]⟩⟩
theorem zSame2.zs {A B : zSt} (h : zSame2 A B) (r j : Nat) (v : Int) : zSame2 (zs A r j v) (zs B r j v) := by
  have q : ∀ a b, A a b = B a b → _root_.Jvm.Pilot.CNestedClipsLaw_law_r3358_ace6f0.zs A r j v a b = _root_.Jvm.Pilot.CNestedClipsLaw_law_r3358_ace6f0.zs B r j v a b := fun a b e => by
    by_cases z : a = r ∧ b = j
    · rw [z.1, z.2, zs_eq, zs_eq]
    · rw [zs_ne z, zs_ne z, e]
  exact ⟨⟨q _ _ h.1.1, q _ _ h.1.2⟩, fun r h1 h2 k hk => q _ _ (h.2.1 r h1 h2 k hk), fun k hk => q _ _ (h.2.2.1 k hk), fun i hi => ⟨q _ _ (h.2.2.2 i hi).1, q _ _ (h.2.2.2 i hi).2⟩⟩
theorem zSv_zs (σ : zSt) (b r j : Nat) (v : Int) : zSv (zs σ (b + r) j v) b = zs (zSv σ b) r j v := by
  funext a c
  unfold zSv zs
  by_cases z : a = r ∧ c = j
  · rw [if_pos z, if_pos ⟨by omega, z.2⟩]
  · rw [if_neg z, if_neg (fun y => z ⟨by omega, y.2⟩)]
theorem zCl.on {σ σ' : zSt} (h : ∀ a, ((1 ≤ a ∧ a < 11) ∨ (21 ≤ a ∧ a < 27) ∨ (33 ≤ a ∧ a < 93)) → σ' a = σ a) (ho : zOn σ) : zOn σ' := zOn_cg h ho
section ACT
variable {σ τ υ ω ψ : zSt}
theorem zKeep_f (h1 : 0 ≤ τ 95 1 ∧ τ 95 1 < 8) (hK : zKeep τ υ) : (∀ a, (a < 95 ∨ 177 ≤ a) → υ a = τ a) ∧ zSame2 (zSv υ (97 + 10 * (τ 95 1).toNat)) (zSv τ 1) ∧ (∀ i, i < 8 → i ≠ (τ 95 1).toNat → ∀ r, r < 10 → υ (97 + 10 * i + r) = τ (97 + 10 * i + r)) ∧ υ 95 1 = (τ 95 1 + 1) % 8 ∧ υ 95 2 = min (τ 95 2 + 1) 8 := by
  obtain ⟨ρ, k1, k2⟩ := hK
  have o : ∀ a, a ≠ 95 → υ a = ρ a := fun a ha => by rw [k2, zs_other ha, zs_other ha]
  have f := k1.2.2.2.2.2
  refine ⟨fun a ha => by rw [o a (by omega), f a (by omega)], ?_, fun i hi hne r hr => by rw [o _ (by omega), f _ (by omega)], ?_, ?_⟩
  · exact (zSame2.of (fun r hr => o _ (by omega))).tr k1.sm
  · rw [k2, zs_ne (by decide), zs_eq]
  · rw [k2, zs_eq]
theorem zAct_pre (hc : zCl σ) (hF : zFin (zSv σ 11)) (ht : ∀ a, (a < 27 ∨ 33 ≤ a) → τ a = σ a) (hK : zKeep τ υ) (hC : zCopy υ ω 1 11) : zSame2 (zSv ω 1) (zSv σ 11) ∧ zGood ω 1 ∧ (∃ d r, zVal (zSv ω 1) d r) ∧ (∀ k, k < (ω 1 0).toNat → 0 ≤ ω 8 (9 * k + 6) ∧ ω 8 (9 * k + 6) ≤ 9) ∧ (∀ k, k < 12 → ω 26 k = 0 ∨ ω 26 k = 1) ∧ (zMr ω 34 ∧ ∀ j, j < 6 → zMr ω (45 + 8 * j)) := by
  obtain ⟨ho, hR, hf, hD, hO, h1, h2⟩ := hc
  have e95 := ht 95 (by decide)
  obtain ⟨u1, u2, u3, u4, u5⟩ := zKeep_f (by rw [e95]; exact h1) hK
  have c := hC.2.2.2.2.2
  have sm : zSame2 (zSv ω 1) (zSv σ 11) := hC.sm.tr (zSame2.of (fun r hr => by show υ (11 + r) = σ (11 + r); rw [u1 _ (by omega), ht _ (by omega)]))
  have ff := sm.fin hF
  have w : ∀ a, 21 ≤ a → a < 27 ∨ (33 ≤ a ∧ a < 95) → ω a = σ a := fun a h1 h2 => by rw [c a (by omega), u1 a (by omega), ht a (by omega)]
  refine ⟨sm, zGood_v.mp ff.1, ff.2.1.1, fun k hk => (ff.2.2 k hk).1, ?_, ?_, fun j hj => ?_⟩
  · rw [w 26 (by decide) (by decide)]; exact ho.2.2.1.2.2.1
  · exact zMr_cg (fun r hr => w _ (by omega) (by omega)) ho.2.2.2.2.2.2.2.1.1
  · exact zMr_cg (fun r hr => w _ (by omega) (by omega)) (ho.2.2.2.2.2.2.2.1.2 j hj)
theorem zDid_mk (hc : zCl σ) (hF : zFin (zSv σ 11)) (ht : ∀ a, (a < 27 ∨ 33 ≤ a) → τ a = σ a) (hO2 : ∀ k, k < 12 → τ 32 k = 0 ∨ τ 32 k = 1) (hK : zKeep τ υ) (hC : zCopy υ ω 1 11) (hP : zPrep ω ψ) : zDid σ (zs ψ 0 10 0) (zSv σ 11) := by
  obtain ⟨sm, gd, vl, -⟩ := zAct_pre hc hF ht hK hC
  obtain ⟨ho, hR, hf, hD, hO, h1, h2⟩ := hc
  have e95 := ht 95 (by decide)
  obtain ⟨u1, u2, u3, u4, u5⟩ := zKeep_f (by rw [e95]; exact h1) hK
  rw [e95] at u2 u3 u4 u5
  have c := hC.2.2.2.2.2
  obtain ⟨p1, p2⟩ := hP
  have ff := sm.fin hF
  have on : zOn ψ := ⟨zGood_eq (fun r hr => p1 _ (by omega)) gd, by
    have E : zEqv (zSv ω 1) (zSv ψ 1) := zEqv.of (fun r hr => p1 (1 + r) (by omega))
    exact ff.2.1.eqv E, p2⟩
  have q : ∀ a, a ≠ 0 → zs ψ 0 10 0 a = ψ a := fun a ha => zs_other ha
  have b : ∀ a, 93 ≤ a → ψ a = υ a := fun a ha => by rw [p1 a (by omega), c a (by omega)]
  refine ⟨zs_eq _ _ _ _, fun j hj => by rw [zs_ne (fun y => hj y.2), p1 0 (by decide), c 0 (by decide), u1 0 (by decide), ht 0 (by decide)], fun a ha => ?_, zOn_st on, ?_, ?_, fun k hk => ?_, ?_, fun i hi hne r hr => ?_, ?_, ?_⟩
  · rw [q a (by omega), b a (by omega), u1 a (by omega), ht a (by omega)]
  · exact (zSame2.of (fun r hr => by show zs ψ 0 10 0 (1 + r) = ω (1 + r); rw [q _ (by omega), p1 _ (by omega)])).tr sm
  · refine zGood_eq (σ := σ) (fun r hr => ?_) (zGood_v.mp hF.1)
    rw [q _ (by omega), p1 _ (by omega), c _ (by omega), u1 _ (by omega), ht _ (by omega)]
  · rw [q _ (by omega), p1 _ (by omega), c _ (by omega), u1 _ (by omega)]; exact hO2 k hk
  · refine (zSame2.of (fun r hr => ?_)).tr (u2.tr (zSame2.of (fun r hr => ht (1 + r) (by omega))))
    show zs ψ 0 10 0 (97 + 10 * (σ 95 1).toNat + r) = υ (97 + 10 * (σ 95 1).toNat + r)
    rw [q _ (by omega), b _ (by omega)]
  · rw [q _ (by omega), b _ (by omega), u3 i hi hne r hr, ht _ (by omega)]
  · rw [q _ (by omega), b _ (by omega), u4]
  · rw [q _ (by omega), b _ (by omega), u5]
theorem zCr_mk {c : Int} (hg : zGood σ 11) (ht : ∀ a, (a < 27 ∨ 33 ≤ a) → τ a = σ a) (hO2 : ∀ k, k < 12 → τ 32 k = 0 ∨ τ 32 k = 1) : zCr σ (zs τ 0 10 c) c := by
  refine ⟨zs_eq _ _ _ _, fun j hj => by rw [zs_ne (fun y => hj y.2), ht 0 (by decide)], fun a h0 ha => by rw [zs_other h0, ht a (by omega)], zGood_eq (σ := σ) (fun r hr => ?_) hg, fun k hk => ?_⟩
  · rw [zs_other (by omega), ht _ (by omega)]
  · rw [zs_other (by decide)]; exact hO2 k hk
theorem zCr_no {c : Int} (hc : zCl σ) : zCr σ (zs σ 0 10 c) c := zCr_mk hc.2.2.2.1 (fun _ _ => rfl) hc.2.2.2.2.1
/-- only the draft has changed -/
def zDf (σ τ : zSt) : Prop := ∀ a, (a < 11 ∨ 21 ≤ a) → τ a = σ a
theorem zDf.cl (h : zDf σ τ) (hc : zCl σ) (hF : zFin (zSv τ 11)) : zCl τ := by
  obtain ⟨ho, hR, hf, hD, hO, h1, h2⟩ := hc
  refine ⟨zOn_cg (fun a ha => h a (by omega)) ho, by rw [h 93 (by omega)]; exact hR, (zSame2.of (fun r hr => h (1 + r) (by omega))).fine hf, zGood_v.mp hF.1, by rw [h 32 (by omega)]; exact hO, by rw [h 95 (by omega)]; exact h1, by rw [h 95 (by omega)]; exact h2⟩
theorem zAcC.base {S' T' : zSt} {a w v : Int} (h : zAcC τ ψ a w v S') (hf : zDf σ τ) (hs : zSame2 S' T') : zAcC σ ψ a w v T' := by
  rcases h with ⟨h1, h2, k1, k2, k3, k4, k5⟩ | ⟨h1, h2, d1, d2, d3, d4, d5, d6, d7, d8, d9, d10, d11⟩
  · exact Or.inl ⟨h1, h2, k1, fun j hj => by rw [k2 j hj, hf 0 (by omega)], fun a h0 ha => by rw [k3 a h0 ha, hf a (by omega)], k4, k5⟩
  · have e := hf 95 (by omega)
    rw [e] at d8 d9 d10 d11
    exact Or.inr ⟨h1, h2, d1, fun j hj => by rw [d2 j hj, hf 0 (by omega)], fun a ha => by rw [d3 a ha, hf a (by omega)], d4, d5.tr hs, d6, d7, d8.tr (zSame2.of (fun r hr => hf (1 + r) (by omega))), fun i hi hne r hr => by rw [d9 i hi hne r hr, hf _ (by omega)], d10, d11⟩
theorem zCopy.df (h : zCopy σ τ 11 1) : zDf σ τ := fun a ha => h.2.2.2.2.2 a (by omega)
theorem zDf.put (h : zDf σ τ) {r j : Nat} {v : Int} (hr : r < 10) : zDf σ (zs τ (11 + r) j v) := fun a ha => by rw [zs_other (by omega)]; exact h a ha
end ACT
theorem c_Nc_draftLasts {G : zG} {n : Nat} {σ : zSt} (hn : 189 ≤ n) (hF : zFin (zSv σ 11)) (hO : ∀ k, k < 12 → σ 32 k = 0 ∨ σ 32 k = 1) : Gm G y_Nc_draftLasts m_Nc_draftLasts 4 0 0 [vr G 0] n SH σ (zI n SH (fun a σ' => a = zlast (zSv σ 11) ∧ (∀ a, (a < 27 ∨ 33 ≤ a) → σ' a = σ a) ∧ ∀ k, k < 12 → σ' 32 k = 0 ∨ σ' 32 k = 1)) := by
  refine g_enter (L := [(0, _)]) (by decide) rfl rfl rfl (Nat.le_of_ble_eq_true rfl) (fun X => ?_)
  obtain ⟨⟨d, r, hv⟩, -⟩ := hF.2.1
  refine g_aload_n (i := 0) (by decide +kernel) rfl ?_
  refine g_getr f_Nc_26 (by decide +kernel) (by omega) rfl rfl ?_
  refine g_aload_n (i := 0) (by decide +kernel) rfl ?_
  refine g_getr f_Nc_16 (by decide +kernel) (by omega) rfl rfl ?_
  refine g_cVV (st := _) (c_La_measure (b := 11) (c := 27) hn la_27 sh_11 (zGood_v.mp hF.1) (Or.inr (by omega)) hv hO) k_La_measure l_Nc_370 (by decide +kernel) (by omega) rfl rfl rfl rfl (Nat.le_of_ble_eq_true rfl) (by decide) ⟨by decide, by decide⟩ ?_
  rintro τ hm
  refine g_aload_n (i := 0) (by decide +kernel) rfl ?_
  refine g_getr f_Nc_26 (by decide +kernel) (by omega) rfl rfl ?_
  refine g_geti f_Nc_215 (by decide +kernel) (by omega) rfl rfl ?_
  refine g_retI (by decide +kernel) rfl (Or.inl rfl) ⟨by decide, by decide⟩ ?_
  refine ⟨?_, fun a ha => hm.1 a (by omega), hm.2.2.2.1⟩
  have e := hm.2.2.2.2.1
  refine e.trans ?_
  unfold zlast
  show (if σ 11 0 = 0 then (0 : Int) else σ 17 0 + τ 29 0) = (if σ 11 0 = 0 then 0 else σ 17 0 + (zsa (zSv σ 11)).2 0)
  by_cases z : σ 11 0 = 0
  · rw [if_pos z, if_pos z]
  · have g : 0 ≤ σ 11 0 := hF.1.1.1
    have hz : zN (zSv σ 11) = (σ 11 0).toNat := rfl
    have e := (zsa_eq hF.2.1 hm.2.1 0 (by omega)).2
    rw [if_neg z, if_neg z, ← e]
theorem c_Nc_act {G : zG} {n : Nat} {σ : zSt} {x : Int} (hn : 189 ≤ n) (hc : zCl σ) (hF : zFin (zSv σ 11)) : Gm G y_Nc_act m_Nc_act 5 0 0 [vr G 0, vi x] n SH σ (zI n SH (fun a σ' => zAcC σ σ' a (if 1999 < zlast (zSv σ 11) then 7 else 0) x (zSv σ 11))) := by
  refine g_enter (L := [(0, _), (1, _)]) (by decide) rfl rfl rfl (Nat.le_of_ble_eq_true rfl) (fun X => ?_)
  obtain ⟨ho, hR, hf, hD, hO, h1, h2⟩ := id hc
  have lr := hF.lr
  refine g_aload_n (i := 0) (by decide +kernel) rfl ?_
  refine g_cVI (st := _) (c_Nc_draftLasts hn hF hO) k_Nc_draftLasts l_Nc_352 (by decide +kernel) (by omega) rfl rfl rfl rfl (Nat.le_of_ble_eq_true rfl) (by decide) ⟨by decide, by decide⟩ ?_
  rintro a9 τ ⟨ea9, ht, hO2⟩
  have e95 := ht 95 (by decide)
  refine g_sipush (a := 1999) (by decide +kernel) (by decide) ?_
  refine g_icmp_le (off := 10) (tgt := 17) (by decide +kernel) (by decide) ⟨by omega, by omega⟩ ⟨by omega, by omega⟩ (fun h7 => ?_) (fun h7 => ?_)
  · refine g_aload_n (i := 0) (by decide +kernel) rfl ?_
    refine g_getr f_Nc_50 (by decide +kernel) (by omega) rfl rfl ?_
    refine g_aload_n (i := 0) (by decide +kernel) rfl ?_
    refine g_getr f_Nc_10 (by decide +kernel) (by omega) rfl rfl ?_
    refine g_cVV (st := _) (c_Pa_keep hn (by rw [e95]; exact h1) (by rw [e95]; exact h2)) k_Pa_keep l_Nc_367 (by decide +kernel) (by omega) rfl rfl rfl rfl (Nat.le_of_ble_eq_true rfl) (by decide) ⟨by decide, by decide⟩ ?_
    rintro υ hK
    refine g_aload_n (i := 0) (by decide +kernel) rfl ?_
    refine g_getr f_Nc_10 (by decide +kernel) (by omega) rfl rfl ?_
    refine g_aload_n (i := 0) (by decide +kernel) rfl ?_
    refine g_getr f_Nc_16 (by decide +kernel) (by omega) rfl rfl ?_
    refine g_cVV (st := _) (c_Sh_copyFrom (b := 1) (f := 11) hn sh_1 sh_11 (Or.inl (by omega))) k_Sh_copyFrom l_Nc_128 (by decide +kernel) (by omega) rfl rfl rfl rfl (Nat.le_of_ble_eq_true rfl) (by decide) ⟨by decide, by decide⟩ ?_
    rintro ω hC
    obtain ⟨sm, gd, ⟨d, r, vl⟩, ly, op, mr⟩ := zAct_pre hc hF ht hK hC
    refine g_aload_n (i := 0) (by decide +kernel) rfl ?_
    refine g_getr f_Nc_34 (by decide +kernel) (by omega) rfl rfl ?_
    refine g_cVV (st := _) (c_Sg_prepare hn gd vl ly op mr) k_Sg_prepare l_Nc_87 (by decide +kernel) (by omega) rfl rfl rfl rfl (Nat.le_of_ble_eq_true rfl) (by decide) ⟨by decide, by decide⟩ ?_
    rintro ψ hP
    refine g_aload_n (i := 0) (by decide +kernel) rfl ?_
    refine g_iload_n (i := 1) (by decide +kernel) rfl ?_
    refine g_cVI (st := _) (c_Nc_give hn) k_Nc_give l_Nc_208 (by decide +kernel) (by omega) rfl rfl rfl rfl (Nat.le_of_ble_eq_true rfl) (by decide) ⟨by decide, by decide⟩ ?_
    rintro a9 σ9 ⟨ea9, hσ9⟩
    obtain rfl := ea9.symm
    subst hσ9
    refine g_retI (by decide +kernel) rfl (Or.inl rfl) ⟨by decide, by decide⟩ ?_
    exact Or.inr ⟨if_neg (by omega), rfl, zDid_mk hc hF ht hO2 hK hC hP⟩
  · refine g_aload_n (i := 0) (by decide +kernel) rfl ?_
    refine g_bipush (a := 7) (by decide +kernel) (by decide) ?_
    refine g_cVI (st := _) (c_Nc_refuse hn) k_Nc_refuse l_Nc_97 (by decide +kernel) (by omega) rfl rfl rfl rfl (Nat.le_of_ble_eq_true rfl) (by decide) ⟨by decide, by decide⟩ ?_
    rintro a9 σ9 ⟨ea9, hσ9⟩
    obtain rfl := ea9.symm
    subst hσ9
    refine g_retI (by decide +kernel) rfl (Or.inl rfl) ⟨by decide, by decide⟩ ?_
    exact Or.inl ⟨by rw [if_pos (by omega)]; decide, rfl, by rw [if_pos (by omega)]; exact zCr_mk (zGood_v.mp hF.1) ht hO2⟩
