/-! LOAD of the reference, its end -/
/-- what load leaves, where the tape was read -/
def zLdM (σ σ' : zSt) (a : Int) (S : zSt) (s : (Int × Nat) ⊕ zAb) : Prop := (∀ a, (a < 189 ∨ a = 196 ∨ a = 197 ∨ 216 ≤ a) → σ' a = σ a) ∧ σ' 189 11 = 0 ∧ match s with
  | .inl f => a = -1 ∧ σ' 189 2 = 9 ∧ (σ' 189 12 = f.1 ∧ σ' 189 13 = (f.2 : Int)) ∧ (σ' 189 1 = σ 189 1 ∧ σ' 189 4 = σ 189 4 ∧ σ' 189 49 = σ 189 49) ∧ zEqv S (zMw (σ' 190) 0) ∧ ∀ j, 194 ≤ j → j < 1746 → σ' 190 j = σ 190 j
  | .inr B => a = B.D 0 0 ∧ σ' 189 2 = 0 ∧ (σ' 189 12 = 0 ∧ σ' 189 13 = -1) ∧ (σ' 189 4 = 0 ∧ σ' 189 49 = 0) ∧ zEqv B.D (zMw (σ' 190) 0) ∧ σ' 189 1 = min (σ 189 1 + 1) 8 ∧ zEqv S (zMw (σ' 190) (194 * (σ' 189 1).toNat)) ∧ ∀ i, 1 ≤ i → i < (σ' 189 1).toNat → ∀ j, j < 194 → σ' 190 (194 * ((σ' 189 1).toNat - i) + j) = σ 190 (194 * ((σ 189 1).toNat + 1 - i) + j)
theorem t_Md_load69F {G : zG} {X : zX} {n : Nat} {σ : zSt} {f : Int × Nat} {x : Int} {Q : Int → zSt → Prop} (hn : 220 ≤ n) (h14 : σ 189 14 = f.1) (h15 : σ 189 15 = (f.2 : Int)) (hf : 1 ≤ f.1 ∧ f.1 ≤ 8) (hQ : Q (-1) (zs (zs (zs (zs σ 189 11 0) 189 12 f.1) 189 13 (f.2 : Int)) 189 2 9))  : Go G X m_Md_load (13, 0, 0, 0, 0) n SH σ 69 [(0, vr G 189), (1, vi x)] [] (zI n SH (fun a σ' => Q a σ')) := by
  refine g_aload_n (i := 0) (by decide +kernel) rfl ?_
  refine g_iconst (a := 0) (by decide +kernel) ?_
  refine g_puti f_Md_198 (by decide +kernel) (by omega) rfl rfl ?_
  refine g_aload_n (i := 0) (by decide +kernel) rfl ?_
  refine g_aload_n (i := 0) (by decide +kernel) rfl ?_
  refine g_geti f_Md_230 (by decide +kernel) (by omega) rfl rfl ?_
  refine g_puti f_Md_34 (by decide +kernel) (by omega) rfl rfl ?_
  refine g_aload_n (i := 0) (by decide +kernel) rfl ?_
  refine g_aload_n (i := 0) (by decide +kernel) rfl ?_
  refine g_geti f_Md_230 (by decide +kernel) (by omega) rfl rfl ?_
  refine g_if_le (off := 10) (tgt := 97) (by decide +kernel) (by decide) ⟨by rw [zs_ne (by decide), zs_ne (by decide)]; omega, by rw [zs_ne (by decide), zs_ne (by decide)]; omega⟩ (fun h87 => ?_) (fun h87 => ?_)
  · exfalso
    rw [zs_ne (by decide), zs_ne (by decide)] at h87
    omega
    skip
  · refine g_aload_n (i := 0) (by decide +kernel) rfl ?_
    refine g_geti f_Md_233 (by decide +kernel) (by omega) rfl rfl ?_
    refine g_goto (off := 4) (tgt := 98) (by decide +kernel) (by decide) ?_
    refine g_puti f_Md_38 (by decide +kernel) (by omega) rfl rfl ?_
    refine g_aload_n (i := 0) (by decide +kernel) rfl ?_
    refine g_geti f_Md_230 (by decide +kernel) (by omega) rfl rfl ?_
    refine g_if_le (off := 10) (tgt := 115) (by decide +kernel) (by decide) ⟨by rw [zs_ne (by decide), zs_ne (by decide), zs_ne (by decide)]; omega, by rw [zs_ne (by decide), zs_ne (by decide), zs_ne (by decide)]; omega⟩ (fun h105 => ?_) (fun h105 => ?_)
    · exfalso
      rw [zs_ne (by decide), zs_ne (by decide), zs_ne (by decide)] at h105
      omega
    · refine g_aload_n (i := 0) (by decide +kernel) rfl ?_
      refine g_bipush (a := 9) (by decide +kernel) (by decide) ?_
      refine g_cVI (st := _) (c_Md_refuse hn) k_Md_refuse l_Md_295 (by decide +kernel) (by omega) rfl rfl rfl rfl (Nat.le_of_ble_eq_true rfl) (by decide) ⟨by decide, by decide⟩ ?_
      rintro a9 σ9 ⟨ea9, hσ9⟩
      obtain rfl := ea9.symm
      subst hσ9
      refine g_retI (by decide +kernel) rfl (Or.inl rfl) ⟨by decide, by decide⟩ ?_
      have e1 : zs σ 189 11 0 189 14 = f.1 := by rw [zs_ne (by decide)]; exact h14
      have e2 : zs (zs σ 189 11 0) 189 12 (zs σ 189 11 0 189 14) 189 15 = (f.2 : Int) := by rw [zs_ne (by decide), zs_ne (by decide)]; exact h15
      rw [e2, e1]
      exact hQ
theorem t_Md_load69G {G : zG} {X : zX} {n : Nat} {σ : zSt} {x : Int} (hn : 220 ≤ n) (h14 : σ 189 14 = 0) (hk : 0 ≤ σ 189 1 ∧ σ 189 1 ≤ 8)  : Go G X m_Md_load (13, 0, 0, 0, 0) n SH σ 69 [(0, vr G 189), (1, vi x)] [] (zI n SH (fun a σ' => ∃ φ, (∀ a, a ≠ 189 → a ≠ 190 → φ a = σ a) ∧ (∀ j, j ≠ 1 → j ≠ 11 → j ≠ 12 → j ≠ 13 → φ 189 j = σ 189 j) ∧ (φ 189 11 = 0 ∧ φ 189 12 = 0 ∧ φ 189 13 = -1) ∧ (∀ j, (j < 194 ∨ 1746 ≤ j) → φ 190 j = σ 190 j) ∧ zPsh σ φ 1746 ∧ a = σ 190 0 ∧ σ' = zs (zs φ 189 4 0) 189 49 0)) := by
  refine g_aload_n (i := 0) (by decide +kernel) rfl ?_
  refine g_iconst (a := 0) (by decide +kernel) ?_
  refine g_puti f_Md_198 (by decide +kernel) (by omega) rfl rfl ?_
  refine g_aload_n (i := 0) (by decide +kernel) rfl ?_
  refine g_aload_n (i := 0) (by decide +kernel) rfl ?_
  refine g_geti f_Md_230 (by decide +kernel) (by omega) rfl rfl ?_
  refine g_puti f_Md_34 (by decide +kernel) (by omega) rfl rfl ?_
  refine g_aload_n (i := 0) (by decide +kernel) rfl ?_
  refine g_aload_n (i := 0) (by decide +kernel) rfl ?_
  refine g_geti f_Md_230 (by decide +kernel) (by omega) rfl rfl ?_
  refine g_if_le (off := 10) (tgt := 97) (by decide +kernel) (by decide) ⟨by rw [zs_ne (by decide), zs_ne (by decide)]; omega, by rw [zs_ne (by decide), zs_ne (by decide)]; omega⟩ (fun h87 => ?_) (fun h87 => ?_)
  · refine g_iconst (a := -1) (by decide +kernel) ?_
    refine g_puti f_Md_38 (by decide +kernel) (by omega) rfl rfl ?_
    refine g_aload_n (i := 0) (by decide +kernel) rfl ?_
    refine g_geti f_Md_230 (by decide +kernel) (by omega) rfl rfl ?_
    refine g_if_le (off := 10) (tgt := 115) (by decide +kernel) (by decide) ⟨by rw [zs_ne (by decide), zs_ne (by decide), zs_ne (by decide)]; omega, by rw [zs_ne (by decide), zs_ne (by decide), zs_ne (by decide)]; omega⟩ (fun h105 => ?_) (fun h105 => ?_)
    · refine g_aload_n (i := 0) (by decide +kernel) rfl ?_
      obtain ⟨ρ, eρ⟩ : ∃ ρ, ρ = zs (zs (zs σ 189 11 0) 189 12 (zs σ 189 11 0 189 14)) 189 13 (-1) := ⟨_, rfl⟩
      refine g_eq (σ' := ρ) ?_ eρ.symm rfl rfl
      have r1 : ∀ a, a ≠ 189 → ρ a = σ a := fun a ha => by rw [eρ, zs_other ha, zs_other ha, zs_other ha]
      have r2 : ∀ j, j ≠ 11 → j ≠ 12 → j ≠ 13 → ρ 189 j = σ 189 j := fun j h1 h2 h3 => by rw [eρ, zs_ne (by omega), zs_ne (by omega), zs_ne (by omega)]
      refine g_cVV (st := _) (c_Md_stays hn (by rw [r2 1 (by decide) (by decide) (by decide)]; exact hk)) k_Md_stays l_Md_304 (by decide +kernel) (by omega) rfl rfl rfl rfl (Nat.le_of_ble_eq_true rfl) (by decide) ⟨by decide, by decide⟩ ?_
      rintro φ ⟨k1, k2, k3, k4⟩
      refine g_aload_n (i := 0) (by decide +kernel) rfl ?_
      refine g_iconst (a := 0) (by decide +kernel) ?_
      refine g_puti f_Md_307 (by decide +kernel) (by omega) rfl rfl ?_
      refine g_aload_n (i := 0) (by decide +kernel) rfl ?_
      refine g_iconst (a := 0) (by decide +kernel) ?_
      refine g_puti f_Md_310 (by decide +kernel) (by omega) rfl rfl ?_
      refine g_aload_n (i := 0) (by decide +kernel) rfl ?_
      refine g_cVI (st := _) (c_Md_clips hn) k_Md_clips l_Md_148 (by decide +kernel) (by omega) rfl rfl rfl rfl (Nat.le_of_ble_eq_true rfl) (by decide) ⟨by decide, by decide⟩ ?_
      rintro a9 σ9 ⟨ea9, hσ9⟩
      obtain rfl := hσ9.symm
      refine g_retI (by decide +kernel) rfl (Or.inl rfl) ⟨by decide, by decide⟩ ?_
      refine ⟨φ, fun a h1 h2 => ?_, fun j h1 h2 h3 h4 => ?_, ⟨?_, ?_, ?_⟩, fun j hj => ?_, ?_, ?_, rfl⟩
      · rw [k1 a h1 h2, r1 a h1]
      · rw [k2 j h1, r2 j h2 h3 h4]
      · rw [k2 11 (by decide), eρ, zs_ne (by decide), zs_ne (by decide), zs_eq]
      · rw [k2 12 (by decide), eρ, zs_ne (by decide), zs_eq, zs_ne (by decide)]; exact h14
      · rw [k2 13 (by decide), eρ, zs_eq]
      · rw [k3 j hj, r1 190 (by decide)]
      · obtain ⟨p1, p2, p3⟩ := k4
        rw [r2 1 (by decide) (by decide) (by decide)] at p1 p3
        rw [r1 190 (by decide)] at p2 p3
        exact ⟨p1, p2, p3⟩
      · rw [ea9, zs_other (by decide), zs_other (by decide), k3 0 (by decide), r1 190 (by decide)]
    · exfalso
      rw [zs_ne (by decide), zs_ne (by decide), zs_ne (by decide)] at h105
      omega
  · exfalso
    rw [zs_ne (by decide), zs_ne (by decide)] at h87
    omega
    skip
theorem c_Md_load {G : zG} {n : Nat} {σ : zSt} {b : Nat → Int} {x : Int} {S : zSt} {A : zAb} (hn : 220 ≤ n) (hF : zFine S) (hS : zMc σ S) (hk : 0 ≤ σ 189 1 ∧ σ 189 1 ≤ 8) (z1 : zr x) (ht : 0 ≤ σ 189 11 ∧ σ 189 11 ≤ 600) (hB : zBm b (σ 196)) (hw : ∀ k, k < 16 → σ 197 k = zke.getD k 0) (hA0 : zA0 b x.toNat A)  : Gm G y_Md_load m_Md_load 13 0 0 [vr G 189, vi x] n SH σ (zI n SH (fun a σ' => ((x < 0 ∨ σ 189 11 < x) ∧ zAcM σ σ' a 1 0 S S) ∨ (¬ (x < 0 ∨ σ 189 11 < x) ∧ ∃ s, zRead b x.toNat A s ∧ zLdM σ σ' a S s))) := by
  refine g_enter (L := [(0, _), (1, _)]) (by decide) rfl rfl rfl (Nat.le_of_ble_eq_true rfl) (fun X => ?_)
  refine g_aload_n (i := 0) (by decide +kernel) rfl ?_
  refine g_iconst (a := 0) (by decide +kernel) ?_
  refine g_puti f_Md_142 (by decide +kernel) (by omega) rfl rfl ?_
  refine g_aload_n (i := 0) (by decide +kernel) rfl ?_
  refine g_iconst (a := 0) (by decide +kernel) ?_
  refine g_puti f_Md_145 (by decide +kernel) (by omega) rfl rfl ?_
  obtain ⟨σ1, e1⟩ : ∃ σ1, σ1 = zs (zs σ 189 3 0) 189 2 0 := ⟨_, rfl⟩
  refine g_eq (σ' := σ1) ?_ e1.symm rfl rfl
  have s1 : ∀ a, a ≠ 189 → σ1 a = σ a := fun a ha => by rw [e1, zs_other ha, zs_other ha]
  have s2 : ∀ j, j ≠ 2 → j ≠ 3 → σ1 189 j = σ 189 j := fun j h1 h2 => by rw [e1, zs_ne (by omega), zs_ne (by omega)]
  have s11 := s2 11 (by decide) (by decide)
  refine g_iload_n (i := 1) (by decide +kernel) rfl ?_
  refine g_iconst (a := 0) (by decide +kernel) ?_
  refine g_aload_n (i := 0) (by decide +kernel) rfl ?_
  refine g_geti f_Md_198 (by decide +kernel) (by omega) rfl rfl ?_
  refine g_cSI (st := _) (c_Md_isIn ⟨by omega, by omega⟩ ⟨by omega, by omega⟩ ⟨by omega, by omega⟩) k_Md_isIn l_Md_152 (by decide +kernel) rfl rfl (Nat.le_of_ble_eq_true rfl) (by decide) ⟨by decide, by decide⟩ ?_
  rintro a9 σ9 ⟨ea9, hσ9⟩
  obtain rfl := hσ9.symm
  have a9r : a9 = 0 ∨ a9 = 1 := by rw [ea9]; exact zb01
  refine g_if_ne (off := 9) (tgt := 28) (by decide +kernel) (by decide) ⟨by omega, by omega⟩ (fun h19 => ?_) (fun h19 => ?_)
  · obtain ⟨n0, rfl⟩ := Int.eq_ofNat_of_zero_le (show 0 ≤ x by rw [ea9] at h19; exact (zit1 h19).1)
    rw [Int.toNat_natCast] at hA0
    have nt : (n0 : Int) ≤ σ 189 11 := by rw [ea9] at h19; have := (zit1 h19).2; omega
    refine g_aload_n (i := 0) (by decide +kernel) rfl ?_
    refine g_iload_n (i := 1) (by decide +kernel) rfl ?_
    refine g_cVI (st := _) (c_Md_isShow (n0 := n0) hn (by rw [s1 196 (by decide)]; exact hB) (by rw [s1 197 (by decide)]; exact hw) (by omega) hA0) k_Md_isShow l_Md_298 (by decide +kernel) (by omega) rfl rfl rfl rfl (Nat.le_of_ble_eq_true rfl) (by decide) ⟨by decide, by decide⟩ ?_
    rintro a8 υ hI
    obtain ⟨τ, eτ⟩ : ∃ τ, τ = (zs (zs (zs (zs (zs σ1 189 20 (n0 : Int)) 189 17 0) 189 14 0) 190 1746 0) 190 1747 0) := ⟨_, rfl⟩
    rw [← eτ] at hI
    have t1 : ∀ a, a ≠ 189 → a ≠ 190 → τ a = σ a := fun a h1 h2 => by rw [eτ, zs_other h2, zs_other h2, zs_other h1, zs_other h1, zs_other h1]; exact s1 a h1
    have t2 : ∀ j, j ≠ 2 → j ≠ 3 → j ≠ 14 → j ≠ 17 → j ≠ 20 → τ 189 j = σ 189 j := fun j h1 h2 h3 h4 h5 => by rw [eτ, zs_other (by decide), zs_other (by decide), zs_ne (by omega), zs_ne (by omega), zs_ne (by omega)]; exact s2 j h1 h2
    have t3 : ∀ j, j < 1746 → τ 190 j = σ 190 j := fun j hj => by rw [eτ, zs_ne (by omega), zs_ne (by omega), zs_other (by decide), zs_other (by decide), zs_other (by decide), s1 190 (by decide)]
    have t20 : τ 189 20 = (n0 : Int) := by rw [eτ, zs_other (by decide), zs_other (by decide), zs_ne (by decide), zs_ne (by decide), zs_eq]
    have hN := hS.b
    -- a fault is told
    have flt : ∀ (f : Int × Nat) (ρ : zSt), zRead b n0 A (.inl f) → (∀ a, (a < 189 ∨ a = 196 ∨ a = 197 ∨ 216 ≤ a) → ρ a = σ a) → (∀ j, (j = 1 ∨ j = 4 ∨ j = 49) → ρ 189 j = σ 189 j) → (∀ j, j < 1746 → ρ 190 j = σ 190 j) → ((((n0 : Int) < 0 ∨ σ 189 11 < (n0 : Int)) ∧ zAcM σ (zs (zs (zs (zs ρ 189 11 0) 189 12 f.1) 189 13 (f.2 : Int)) 189 2 9) (-1) 1 0 S S) ∨ (¬ ((n0 : Int) < 0 ∨ σ 189 11 < (n0 : Int)) ∧ ∃ s, zRead b ((n0 : Int)).toNat A s ∧ zLdM σ (zs (zs (zs (zs ρ 189 11 0) 189 12 f.1) 189 13 (f.2 : Int)) 189 2 9) (-1) S s)) := by
      intro f ρ g1 g2 g3 g4
      refine Or.inr ⟨by omega, .inl f, by rw [Int.toNat_natCast]; exact g1, fun a ha => ?_, ?_, rfl, ?_, ⟨?_, ?_⟩, ⟨?_, ?_, ?_⟩, ?_, fun j h1 h2 => ?_⟩
      · rw [zs_other (by omega), zs_other (by omega), zs_other (by omega), zs_other (by omega)]; exact g2 a ha
      · rw [zs_ne (by decide), zs_ne (by decide), zs_ne (by decide), zs_eq]
      · rw [zs_eq]
      · rw [zs_ne (by decide), zs_ne (by decide), zs_eq]
      · rw [zs_ne (by decide), zs_eq]
      · rw [zs_ne (by decide), zs_ne (by decide), zs_ne (by decide), zs_ne (by decide)]; exact g3 1 (by decide)
      · rw [zs_ne (by decide), zs_ne (by decide), zs_ne (by decide), zs_ne (by decide)]; exact g3 4 (by decide)
      · rw [zs_ne (by decide), zs_ne (by decide), zs_ne (by decide), zs_ne (by decide)]; exact g3 49 (by decide)
      · rw [zs_other (by decide), zs_other (by decide), zs_other (by decide), zs_other (by decide)]
        exact zMw_blk hN (c := σ 190) (o := 0) (fun j hj => by rw [Nat.zero_add]; exact g4 j (by omega)) hS.1
      · rw [zs_other (by decide), zs_other (by decide), zs_other (by decide), zs_other (by decide)]; exact g4 j (by omega)
    rcases hI with ⟨f, g1, ea8, g2⟩ | ⟨B, g1, g2, g3, g4, ea8, g5⟩
    case inl =>
      subst ea8
      have hRd : zRead b n0 A (.inl f) := by
        rcases g1 with y | ⟨B, y1, y2, y3⟩
        · exact ⟨_, y, rfl⟩
        · refine ⟨_, y1, ?_⟩
          show _ = zfe b n0 B
          unfold zfe
          rw [if_pos y2, y3]
      have fr := g2.2.2.2.2
      refine g_if_eq (off := 36) (tgt := 69) (by decide +kernel) (by decide) ⟨by decide, by decide⟩ (fun _ => ?_) (fun y => absurd rfl y)
      exact t_Md_load69F hn g2.2.1 g2.2.2.1 g2.1 (flt f υ hRd (fun a ha => by rw [fr.1 a (by omega) (by omega) (by omega) (by omega) (by omega)]; exact t1 a (by omega) (by omega)) (fun j hj => by rw [fr.2.2 j (by omega)]; exact t2 j (by omega) (by omega) (by omega) (by omega) (by omega)) (fun j hj => by rw [fr.2.1 j hj]; exact t3 j hj))
    subst ea8
    have fr := g5.1.2.2.2
    have FB := g4.2.fin g3
    have lr := FB.lr
    have bN := FB.b
    refine g_if_eq (off := 36) (tgt := 69) (by decide +kernel) (by decide) ⟨by omega, by omega⟩ (fun h33 => ?_) (fun h33 => ?_)
    · first
        | exact absurd h33 (by decide)
        | (have sh : ¬ 1999 < zlast B.D := by omega
           have o1 : ω 189 1 = σ 189 1 := by rw [oj 1 (by decide)]; exact t2 1 (by decide) (by decide) (by decide) (by decide) (by decide)
           refine Go.mono (t_Md_load69G hn o14 (by rw [o1]; exact hk)) ?_
           rintro r n' sh' σ' ⟨⟨a, er, φ, y1, y2, y3, y4, y5, y6, y7⟩, en, es⟩
           refine ⟨⟨a, er, Or.inr ⟨by omega, .inr B, ⟨_, g1, ?_⟩, fun a ha => ?_, ?_, ?_, ?_, ⟨?_, ?_⟩, ⟨?_, ?_⟩, ?_, ?_, ?_, fun i h1 h2 j hj => ?_⟩⟩, en, es⟩
           · show _ = zfe b ((n0 : Int)).toNat B
             rw [Int.toNat_natCast]
             unfold zfe
             rw [if_neg (fun y => y g2), if_neg sh]
           · rw [y7, zs_other (by omega), zs_other (by omega), y1 a (by omega) (by omega)]; exact oa a ha
           · rw [y7, zs_ne (by decide), zs_ne (by decide)]; exact y3.1
           · rw [y6, o190]; exact hM.n
           · rw [y7, zs_ne (by decide), zs_ne (by decide), y2 2 (by decide) (by decide) (by decide) (by decide), oj 2 (by decide), eτ, zs_other (by decide), zs_other (by decide), zs_ne (by decide), zs_ne (by decide), zs_ne (by decide), e1, zs_eq]
           · rw [y7, zs_ne (by decide), zs_ne (by decide)]; exact y3.2.1
           · rw [y7, zs_ne (by decide), zs_ne (by decide)]; exact y3.2.2
           · rw [y7, zs_ne (by decide), zs_eq]
           · rw [y7, zs_eq]
           · rw [y7, zs_other (by decide), zs_other (by decide)]
             exact zMw_blk bN (c := ψ 190) (o := 0) (fun j hj => by rw [Nat.zero_add, y4 j (by omega), o190]) hM.1
           · rw [y7, zs_ne (by decide), zs_ne (by decide), y5.1, o1]
           · rw [y7, zs_ne (by decide), zs_ne (by decide), zs_other (by decide), zs_other (by decide)]
             refine zMw_blk hN (c := σ 190) (o := 0) (fun j hj => ?_) hS.1
             rw [y5.2.1 j hj, o190, p2, zsw_b hj, υ0 j (by omega), Nat.zero_add]
           · have h2 : i < (φ 189 1).toNat := by rw [y7, zs_ne (by decide), zs_ne (by decide)] at h2; exact h2
             have e1b : zs (zs φ 189 4 0) 189 49 0 189 1 = φ 189 1 := by rw [zs_ne (by decide), zs_ne (by decide)]
             rw [y7, e1b, zs_other (show (190 : Nat) ≠ 189 by decide), zs_other (show (190 : Nat) ≠ 189 by decide), y5.2.2 i h1 h2 j hj, o1, o190, p2]
             have k8 : (φ 189 1).toNat ≤ 8 ∧ (φ 189 1).toNat ≤ (σ 189 1).toNat + 1 := by have := y5.1; rw [o1] at this; omega
             rw [zsw_c (by omega), υ0 _ (by omega)])
    · refine g_aload_n (i := 0) (by decide +kernel) rfl ?_
      refine g_cVV (st := _) (c_Md_swaps hn) k_Md_swaps l_Md_301 (by decide +kernel) (by omega) rfl rfl rfl rfl (Nat.le_of_ble_eq_true rfl) (by decide) ⟨by decide, by decide⟩ ?_
      rintro ψ hψ
      have p1 : ∀ a, a ≠ 190 → ψ a = υ a := fun a ha => by rw [hψ, zrow_ne ha]
      have p2 : ψ 190 = zsw (υ 190) 194 := by rw [hψ, zrow_eq]
      have hM : zMc ψ B.D := FB.mc (zMw_blk bN (c := υ 190) (o := 1746) (fun j hj => by rw [p2, Nat.zero_add, zsw_a hj]) g5.2.2.2)
      refine g_aload_n (i := 0) (by decide +kernel) rfl ?_
      refine g_cVL (st := _) (c_Md_lasts hn hM) k_Md_lasts l_Md_163 (by decide +kernel) (by omega) rfl rfl rfl rfl (Nat.le_of_ble_eq_true rfl) (by decide) ⟨by decide, by decide⟩ ?_
      rintro a7 ω ⟨ea7, hf1, _⟩
      have o190 : ω 190 = ψ 190 := hf1 190 (by decide)
      have o189 : ω 189 = υ 189 := by rw [hf1 189 (by decide), p1 189 (by decide)]
      have o14 : ω 189 14 = 0 := by rw [o189]; exact g5.1.1
      have oa : ∀ a, (a < 189 ∨ a = 196 ∨ a = 197 ∨ 216 ≤ a) → ω a = σ a := fun a ha => by rw [hf1 a (by omega), p1 a (by omega), fr.1 a (by omega) (by omega) (by omega) (by omega) (by omega)]; exact t1 a (by omega) (by omega)
      have oj : ∀ j, (j = 1 ∨ j = 2 ∨ j = 4 ∨ j = 49) → ω 189 j = τ 189 j := fun j hj => by rw [o189]; exact fr.2.2 j (by omega)
      have o20 : ω 189 20 = (n0 : Int) := by rw [o189, fr.2.2 20 (by decide)]; exact t20
      have υ0 : ∀ j, j < 1746 → υ 190 j = σ 190 j := fun j hj => by rw [fr.2.1 j hj]; exact t3 j hj
      refine g_ldc2 (x := 167) (a := 1999) (by decide +kernel) c_Md_167 (by decide) ?_
      refine g_lcmp (by decide +kernel) ⟨by omega, by omega⟩ ⟨by omega, by omega⟩ ?_
      refine g_if_le (off := 21) (tgt := 69) (by decide +kernel) (by decide) zcmp_r (fun h48 => ?_) (fun h48 => ?_)
      · have h48 := zcmp_le.mp h48
        first
          | exact absurd h33 (by decide)
          | (have sh : ¬ 1999 < zlast B.D := by omega
             have o1 : ω 189 1 = σ 189 1 := by rw [oj 1 (by decide)]; exact t2 1 (by decide) (by decide) (by decide) (by decide) (by decide)
             refine Go.mono (t_Md_load69G hn o14 (by rw [o1]; exact hk)) ?_
             rintro r n' sh' σ' ⟨⟨a, er, φ, y1, y2, y3, y4, y5, y6, y7⟩, en, es⟩
             refine ⟨⟨a, er, Or.inr ⟨by omega, .inr B, ⟨_, g1, ?_⟩, fun a ha => ?_, ?_, ?_, ?_, ⟨?_, ?_⟩, ⟨?_, ?_⟩, ?_, ?_, ?_, fun i h1 h2 j hj => ?_⟩⟩, en, es⟩
             · show _ = zfe b ((n0 : Int)).toNat B
               rw [Int.toNat_natCast]
               unfold zfe
               rw [if_neg (fun y => y g2), if_neg sh]
             · rw [y7, zs_other (by omega), zs_other (by omega), y1 a (by omega) (by omega)]; exact oa a ha
             · rw [y7, zs_ne (by decide), zs_ne (by decide)]; exact y3.1
             · rw [y6, o190]; exact hM.n
             · rw [y7, zs_ne (by decide), zs_ne (by decide), y2 2 (by decide) (by decide) (by decide) (by decide), oj 2 (by decide), eτ, zs_other (by decide), zs_other (by decide), zs_ne (by decide), zs_ne (by decide), zs_ne (by decide), e1, zs_eq]
             · rw [y7, zs_ne (by decide), zs_ne (by decide)]; exact y3.2.1
             · rw [y7, zs_ne (by decide), zs_ne (by decide)]; exact y3.2.2
             · rw [y7, zs_ne (by decide), zs_eq]
             · rw [y7, zs_eq]
             · rw [y7, zs_other (by decide), zs_other (by decide)]
               exact zMw_blk bN (c := ψ 190) (o := 0) (fun j hj => by rw [Nat.zero_add, y4 j (by omega), o190]) hM.1
             · rw [y7, zs_ne (by decide), zs_ne (by decide), y5.1, o1]
             · rw [y7, zs_ne (by decide), zs_ne (by decide), zs_other (by decide), zs_other (by decide)]
               refine zMw_blk hN (c := σ 190) (o := 0) (fun j hj => ?_) hS.1
               rw [y5.2.1 j hj, o190, p2, zsw_b hj, υ0 j (by omega), Nat.zero_add]
             · have h2 : i < (φ 189 1).toNat := by rw [y7, zs_ne (by decide), zs_ne (by decide)] at h2; exact h2
               have e1b : zs (zs φ 189 4 0) 189 49 0 189 1 = φ 189 1 := by rw [zs_ne (by decide), zs_ne (by decide)]
               rw [y7, e1b, zs_other (show (190 : Nat) ≠ 189 by decide), zs_other (show (190 : Nat) ≠ 189 by decide), y5.2.2 i h1 h2 j hj, o1, o190, p2]
               have k8 : (φ 189 1).toNat ≤ 8 ∧ (φ 189 1).toNat ≤ (σ 189 1).toNat + 1 := by have := y5.1; rw [o1] at this; omega
               rw [zsw_c (by omega), υ0 _ (by omega)])
      · have h48 := zcmp_gt.mp h48
        refine g_aload_n (i := 0) (by decide +kernel) rfl ?_
        refine g_aload_n (i := 0) (by decide +kernel) rfl ?_
        refine g_geti f_Md_204 (by decide +kernel) (by omega) rfl rfl ?_
        refine g_puti f_Md_210 (by decide +kernel) (by omega) rfl rfl ?_
        refine g_aload_n (i := 0) (by decide +kernel) rfl ?_
        refine g_bipush (a := 8) (by decide +kernel) (by decide) ?_
        refine g_cVV (st := _) (c_Md_fails hn ⟨by rw [zs_ne (by decide)]; omega, by rw [zs_ne (by decide)]; omega⟩ (fun _ => ⟨by rw [zs_ne (by decide), o189, g5.1.2.1.2.1]; have := zsrt_r (zTt b n0 B.q); omega, by rw [zs_ne (by decide), o189, g5.1.2.1.2.1]; have := zsrt_r (zTt b n0 B.q); omega⟩) ⟨by decide, by decide⟩) k_Md_fails l_Md_236 (by decide +kernel) (by omega) rfl rfl rfl rfl (Nat.le_of_ble_eq_true rfl) (by decide) ⟨by decide, by decide⟩ ?_
        rintro φ hφ
        refine g_aload_n (i := 0) (by decide +kernel) rfl ?_
        refine g_cVV (st := _) (c_Md_swaps hn) k_Md_swaps l_Md_301 (by decide +kernel) (by omega) rfl rfl rfl rfl (Nat.le_of_ble_eq_true rfl) (by decide) ⟨by decide, by decide⟩ ?_
        rintro χ hχ
        have f14 : zs ω 189 16 (ω 189 20) 189 14 = 0 := by rw [zs_ne (by decide)]; exact o14
        have ef : φ = zs (zs (zs ω 189 16 (n0 : Int)) 189 14 8) 189 15 (n0 : Int) := by
          rw [hφ]
          unfold zfl
          rw [if_neg (show ¬ 0 < zs ω 189 16 (ω 189 20) 189 14 by omega), if_neg (show ¬ ((8 : Int) = 2 ∧ zs ω 189 16 (ω 189 20) 189 18 = 4) from fun y => absurd y.1 (by decide)), zs_eq, o20]
        have c1 : ∀ a, a ≠ 190 → χ a = φ a := fun a ha => by rw [hχ, zrow_ne ha]
        have q1 : ∀ a, a ≠ 189 → φ a = ω a := fun a ha => by rw [ef, zs_other ha, zs_other ha, zs_other ha]
        have q2 : ∀ j, j ≠ 14 → j ≠ 15 → j ≠ 16 → φ 189 j = ω 189 j := fun j h1 h2 h3 => by rw [ef, zs_ne (by omega), zs_ne (by omega), zs_ne (by omega)]
        have qB : B.q = n0 := by
          have z := zTt_end.mp g2
          have := g4.1.1
          omega
        have lg : 1999 < zlast B.D := by omega
        refine t_Md_load69F (f := (8, n0)) hn (by rw [c1 189 (by decide), ef, zs_ne (by decide), zs_eq]) (by rw [c1 189 (by decide), ef, zs_eq]) (by show (1 : Int) ≤ 8 ∧ (8 : Int) ≤ 8; decide) (flt (8, n0) χ ?_ (fun a ha => by rw [c1 a (by omega), q1 a (by omega)]; exact oa a ha) (fun j hj => by rw [c1 189 (by decide), q2 j (by omega) (by omega) (by omega), oj j (by omega)]; exact t2 j (by omega) (by omega) (by omega) (by omega) (by omega)) (fun j hj => ?_))
        · refine ⟨_, g1, ?_⟩
          show _ = zfe b n0 B
          unfold zfe
          rw [if_neg (fun y => y g2), if_pos lg, qB]
        · rw [hχ, zrow_eq, q1 190 (by decide), o190, p2]
          by_cases c : j < 194
          · rw [zsw_a c, zsw_b c]; exact υ0 j hj
          · rw [zsw_c (by omega), zsw_c (by omega)]; exact υ0 j hj
  · refine g_aload_n (i := 0) (by decide +kernel) rfl ?_
    refine g_iconst (a := 1) (by decide +kernel) ?_
    refine g_cVI (st := _) (c_Md_refuse hn) k_Md_refuse l_Md_295 (by decide +kernel) (by omega) rfl rfl rfl rfl (Nat.le_of_ble_eq_true rfl) (by decide) ⟨by decide, by decide⟩ ?_
    rintro a8 σ8 ⟨ea8, hσ8⟩
    refine g_retI (by decide +kernel) rfl (Or.inl rfl) ⟨by decide, by decide⟩ ?_
    refine Or.inl ⟨by rw [ea9] at h19; have := zit0 h19; omega, ?_⟩
    have hM1 : zEqv S (zMw (σ8 190) 0) := by rw [hσ8, zs_other (by decide), s1 190 (by decide)]; exact hS.1
    refine ⟨⟨fun a ha => by rw [hσ8, zs_other (by omega)]; exact s1 a (by omega), fun j hj => by rw [hσ8, zs_ne (by omega)]; exact s2 j (by omega) (by omega)⟩, by rw [hσ8, zs_eq], Or.inl ⟨by decide, ea8, by rw [hσ8, zs_ne (by decide)]; exact s2 1 (by decide) (by decide), hM1, fun j _ _ => by rw [hσ8, zs_other (by decide), s1 190 (by decide)]⟩⟩
